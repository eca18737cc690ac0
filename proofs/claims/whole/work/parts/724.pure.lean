def pw (n : Int) : Int := (2 : Int) ^ n.toNat
theorem shl_pw {n : Int} (h : 0 ≤ n ∧ n ≤ 6) : I 1 <<< (I n &&& I 31) = I (pw n) ∧ 1 ≤ pw n ∧ pw n ≤ 64 := by
  have : n = 0 ∨ n = 1 ∨ n = 2 ∨ n = 3 ∨ n = 4 ∨ n = 5 ∨ n = 6 := by omega
  rcases this with h | h | h | h | h | h | h <;> subst h <;> decide
noncomputable def oneK (N : Int → Int) (g s : Int) : Nat → Int
  | 0 => 0
  | k + 1 => ii (N (84 + k) = g ∧ hasA (I s) k) (oneK N g s k + N (90 + k)) (oneK N g s k)
noncomputable def othK (N : Int → Int) (g s : Int) : Nat → Int
  | 0 => 0
  | k + 1 => ii (N (84 + k) = g ∧ ¬ hasA (I s) k) (othK N g s k + N (96 + k)) (othK N g s k)
def hisK (N : Int → Int) (g s : Int) (k : Nat) : Prop := ∀ j : Nat, j < k → N (84 + j) ≠ g → ¬ hasA (I s) j
theorem sums_r {N : Int → Int} {g s : Int} (wf : WFP N) (k : Nat) (hk : k ≤ 6) : (0 ≤ oneK N g s k ∧ oneK N g s k ≤ 99 * k) ∧ (0 ≤ othK N g s k ∧ othK N g s k ≤ 99 * k) := by
  obtain ⟨wn0, wn1, wn2, wn3, wn4, wn5, wn6, wn7, wfr, wto, wff, wwa, wco, wwd, wgl, wgr, wnk, wda, wdr, wgo, wg1, wg2, wwx⟩ := wf
  induction k with
  | zero => simp [oneK, othK]
  | succ k ih =>
    have i := ih (by omega)
    have h1 := wg1 k (by omega) (by omega)
    have h2 := wg2 k (by omega) (by omega)
    unfold oneK othK ii
    refine ⟨?_, ?_⟩
    · split <;> omega
    · split <;> omega
noncomputable def valA (N : Int → Int) (g s : Int) : Int := min (oneK N g s (N 2).toNat) (othK N g s (N 2).toNat)
theorem hisK_succ {N : Int → Int} {g s : Int} {k : Nat} : hisK N g s (k + 1) ↔ hisK N g s k ∧ (N (84 + k) ≠ g → ¬ hasA (I s) k) := by
  constructor
  · intro h
    exact ⟨fun j hj => h j (by omega), h k (by omega)⟩
  · intro h j hj
    by_cases e : j = k
    · subst e; exact h.2
    · exact h.1 j (by omega)
theorem M_partIn {S : Nat → Nat × Nat} {R : Nat → Int → Int} {w : Nat → Nat → Int64} {rf : Nat → Nat → Option Nat} {g s : Int} {x2 : Int32} (hS : SMok S) (hr : RMok rf) (wf : WFP (R 66)) (hg : 0 ≤ g ∧ g < 4) : loopN (fX13_partsOf_L38 S (mk R w rf) 64 (I g) x2 (I s)) 1000 (I 0, I 0, I 1, I 0) = some (I (oneK (R 66) g s (R 66 2).toNat), I (othK (R 66) g s (R 66 2).toNat), b2 (hisK (R 66) g s (R 66 2).toNat)) := by
  have wf' := wf
  obtain ⟨wn0, wn1, wn2, wn3, wn4, wn5, wn6, wn7, wfr, wto, wff, wwa, wco, wwd, wgl, wgr, wnk, wda, wdr, wgo, wg1, wg2, wwx⟩ := wf
  have l1 := loop_seq (f := fX13_partsOf_L38 S (mk R w rf) 64 (I g) x2 (I s)) (m := 1000) (fun k => (I (oneK (R 66) g s k), I (othK (R 66) g s k), b2 (hisK (R 66) g s k), I k)) (R 66 2).toNat (r := (I (oneK (R 66) g s (R 66 2).toNat), I (othK (R 66) g s (R 66 2).toNat), b2 (hisK (R 66) g s (R 66 2).toNat))) (by omega) (by
    intro k hk
    have h5 : ¬ (R 66 2 ≤ (k : Int)) := by omega
    have h1 := wgo k (by omega) (by omega)
    simp (disch := first | assumption | omega) only [fX13_partsOf_L38, fX13_partsOf_b129, fX13_partsOf_b86, fX13_partsOf_b85, I_lit, orb_I, I_add, I_sub, I_mul, I_neg, nm_eq, bd0_s, bd2_s, un2_eq, un3_eq, un4_eq, un5_eq, un6_eq, cs2_l, cs2_r, mk_1, mk_2, wI_mk, wL_mk, wR_mk, setR_same, setR_setR, rZ_0, rZ_1, rZ_b2, it_b2, it_nb2, it_b21, it_nb21, I_lt, I_le, I_eq, I_div, castI, if_true, if_false, Classical.not_not, gM14, ldM66, h5, M_has]
    have ek : ((k + 1 : Nat) : Int) = (k : Int) + 1 := by omega
    rw [ek]
    show _ = some (Sum.inl (I (ii _ _ _), I (ii _ _ _), _, _))
    by_cases q1 : R 66 (84 + k) = g
    · have q0 : hisK (R 66) g s (k + 1) ↔ hisK (R 66) g s k := by
        rw [hisK_succ]
        exact ⟨fun h => h.1, fun h => ⟨h, fun h2 => absurd q1 h2⟩⟩
      rw [b2_eq q0]
      by_cases q2 : hasA (I s) k
      · rw [ii_t ⟨q1, q2⟩, ii_f (fun h => h.2 q2), if_pos q1, if_pos q2]
      · rw [ii_f (fun h => q2 h.2), ii_t ⟨q1, q2⟩, if_pos q1, if_neg q2]
    · rw [ii_f (fun h => q1 h.1), ii_f (fun h => q1 h.1), if_neg q1]
      by_cases q2 : hasA (I s) k
      · rw [b2_f (p := hisK (R 66) g s (k + 1)) (fun h => (hisK_succ.1 h).2 q1 q2)]
        by_cases q3 : hisK (R 66) g s k
        · rw [if_pos q3, if_pos q2]; rfl
        · rw [if_neg q3]; rfl
      · by_cases q3 : hisK (R 66) g s k
        · rw [if_pos q3, if_neg q2, b2_t (p := hisK (R 66) g s (k + 1)) (hisK_succ.2 ⟨q3, fun _ => q2⟩)]; rfl
        · rw [if_neg q3, b2_f (p := hisK (R 66) g s (k + 1)) (fun h => q3 (hisK_succ.1 h).1)]; rfl) (by
    have h5 : (R 66 2 ≤ ((R 66 2).toNat : Int)) := by omega
    simp (disch := first | assumption | omega) only [fX13_partsOf_L38, I_lit, orb_I, I_add, I_sub, I_mul, I_neg, nm_eq, bd0_s, bd2_s, un2_eq, un3_eq, un4_eq, un5_eq, un6_eq, cs2_l, cs2_r, mk_1, mk_2, wI_mk, wL_mk, wR_mk, setR_same, setR_setR, rZ_0, rZ_1, rZ_b2, it_b2, it_nb2, it_b21, it_nb21, I_lt, I_le, I_eq, I_div, castI, if_true, if_false, Classical.not_not, gM14, ldM66, h5])
  have e0 : (I (oneK (R 66) g s 0), I (othK (R 66) g s 0), b2 (hisK (R 66) g s 0), I ((0 : Nat) : Int)) = (I 0, I 0, I 1, I 0) := by
    rw [b2_t (p := hisK (R 66) g s 0) (fun j hj => by omega)]; rfl
  simp only [e0] at l1
  exact l1
noncomputable def bvK (N : Int → Int) (g : Int) : Nat → Int
  | 0 => -1
  | s + 1 => ii (hisK N g s (N 2).toNat ∧ bvK N g s < valA N g s) (valA N g s) (bvK N g s)
noncomputable def bsK (N : Int → Int) (g : Int) : Nat → Int
  | 0 => 0
  | s + 1 => ii (hisK N g s (N 2).toNat ∧ bvK N g s < valA N g s) s (bsK N g s)
theorem val_r {N : Int → Int} {g s : Int} (wf : WFP N) : 0 ≤ valA N g s ∧ valA N g s ≤ 594 := by
  have w2 := wf.2.2.1
  have := sums_r (g := g) (s := s) wf (N 2).toNat (by omega)
  unfold valA
  omega
theorem bv_r {N : Int → Int} {g : Int} (wf : WFP N) (s : Nat) : (-1 ≤ bvK N g s ∧ bvK N g s ≤ 594) ∧ (0 ≤ bsK N g s ∧ bsK N g s ≤ s) ∧ (bvK N g s ≠ -1 → valA N g (bsK N g s) = bvK N g s) := by
  induction s with
  | zero => exact ⟨by simp [bvK], by simp [bsK], fun h => absurd rfl h⟩
  | succ s ih =>
    have := val_r (g := g) (s := s) wf
    unfold bvK bsK
    by_cases h : hisK N g s (N 2).toNat ∧ bvK N g s < valA N g s
    · rw [ii_t h, ii_t h]
      exact ⟨by omega, by omega, fun _ => rfl⟩
    · rw [ii_f h, ii_f h]
      exact ⟨ih.1, by omega, ih.2.2⟩
theorem updf_id {N : Int → Int} {z : Int} : updf N z (N z) = N := by
  funext y
  unfold updf
  split
  · rename_i h; rw [h]
  · rfl
theorem M_partsOf {S : Nat → Nat × Nat} {R : Nat → Int → Int} {w : Nat → Nat → Int64} {rf : Nat → Nat → Option Nat} {g : Int} (hS : SMok S) (hr : RMok rf) (wf : WFP (R 66)) (hg : 0 ≤ g ∧ g < R 66 1) : fX13_partsOf S (mk R w rf) 64 (I g) = some (I (bvK (R 66) g (pw (R 66 2)).toNat), mk (setR R 64 (updf (R 64) 30 (ii (bvK (R 66) g (pw (R 66 2)).toNat = -1) (R 64 30) (bsK (R 66) g (pw (R 66 2)).toNat)))) w rf) := by
  have w1 := wf.2.1
  have w2 := wf.2.2.1
  obtain ⟨p1, p2⟩ := shl_pw (n := R 66 2) (by omega)
  have hg4 : 0 ≤ g ∧ g < 4 := by omega
  have l1 := loop_seq (f := fX13_partsOf_L14 S 64 (I g)) (m := 1000) (fun s => (I (bvK (R 66) g s), I s, mk (setR R 64 (updf (R 64) 30 (ii (bvK (R 66) g s = -1) (R 64 30) (bsK (R 66) g s)))) w rf)) (pw (R 66 2)).toNat (r := (I (bvK (R 66) g (pw (R 66 2)).toNat), mk (setR R 64 (updf (R 64) 30 (ii (bvK (R 66) g (pw (R 66 2)).toNat = -1) (R 64 30) (bsK (R 66) g (pw (R 66 2)).toNat)))) w rf)) (by omega) (by
    intro s hs
    have h5 : ¬ (pw (R 66 2) ≤ (s : Int)) := by omega
    have e66 : setR R 64 (updf (R 64) 30 (ii (bvK (R 66) g s = -1) (R 64 30) (bsK (R 66) g s))) 66 = R 66 := setR_ne (by omega)
    have mi := M_partIn (S := S) (w := w) (R := setR R 64 (updf (R 64) 30 (ii (bvK (R 66) g s = -1) (R 64 30) (bsK (R 66) g s)))) (g := g) (s := s) (x2 := I (bvK (R 66) g s)) hS hr (by rw [e66]; exact wf) hg4
    rw [e66] at mi
    have hr1 := bv_r (g := g) wf s
    have hv := sums_r (g := g) (s := (s : Int)) wf (R 66 2).toNat (by omega)
    have hv2 := val_r (g := g) (s := (s : Int)) wf
    have hve : min (oneK (R 66) g s (R 66 2).toNat) (othK (R 66) g s (R 66 2).toNat) = valA (R 66) g s := rfl
    simp (disch := first | assumption | omega) only [fX13_partsOf_L14, fX13_partsOf_b167, I_lit, orb_I, I_add, I_sub, I_mul, I_neg, nm_eq, bd0_s, bd2_s, un2_eq, un3_eq, un4_eq, un5_eq, un6_eq, cs2_l, cs2_r, mk_1, mk_2, wI_mk, wL_mk, wR_mk, setR_same, setR_setR, rZ_0, rZ_1, rZ_b2, it_b2, it_nb2, it_b21, it_nb21, I_lt, I_le, I_eq, I_div, castI, if_true, if_false, Classical.not_not, gM14, ldM66, e66, p1, h5, mi, M_least, hve]
    show _ = some (Sum.inl (I (ii _ _ _), _, mk (setR R 64 (updf (R 64) 30 (ii (ii _ _ _ = -1) _ (ii _ _ _)))) w rf))
    have ek : ((s + 1 : Nat) : Int) = (s : Int) + 1 := by omega
    rw [ek]
    by_cases q1 : hisK (R 66) g s (R 66 2).toNat
    · rw [if_pos q1]
      by_cases q2 : bvK (R 66) g s < valA (R 66) g s
      · have hc : hisK (R 66) g s (R 66 2).toNat ∧ bvK (R 66) g s < valA (R 66) g s := ⟨q1, q2⟩
        rw [if_pos q2]
        simp only [ii_t hc]
        rw [ii_f (p := valA (R 66) g s = -1) (by omega)]
        simp only [updf_updf]
      · have hc : ¬ (hisK (R 66) g s (R 66 2).toNat ∧ bvK (R 66) g s < valA (R 66) g s) := fun h => q2 h.2
        rw [if_neg q2]
        simp only [ii_f hc]
    · have hc : ¬ (hisK (R 66) g s (R 66 2).toNat ∧ bvK (R 66) g s < valA (R 66) g s) := fun h => q1 h.1
      rw [if_neg q1]
      simp only [ii_f hc]) (by
    have h5 : (pw (R 66 2) ≤ ((pw (R 66 2)).toNat : Int)) := by omega
    have e66 : setR R 64 (updf (R 64) 30 (ii (bvK (R 66) g (pw (R 66 2)).toNat = -1) (R 64 30) (bsK (R 66) g (pw (R 66 2)).toNat))) 66 = R 66 := setR_ne (by omega)
    simp (disch := first | assumption | omega) only [fX13_partsOf_L14, I_lit, orb_I, I_add, I_sub, I_mul, I_neg, nm_eq, bd0_s, bd2_s, un2_eq, un3_eq, un4_eq, un5_eq, un6_eq, cs2_l, cs2_r, mk_1, mk_2, wI_mk, wL_mk, wR_mk, setR_same, setR_setR, rZ_0, rZ_1, rZ_b2, it_b2, it_nb2, it_b21, it_nb21, I_lt, I_le, I_eq, I_div, castI, if_true, if_false, Classical.not_not, gM14, ldM66, e66, p1, h5])
  have e0 : (I (bvK (R 66) g 0), I ((0 : Nat) : Int), mk (setR R 64 (updf (R 64) 30 (ii (bvK (R 66) g 0 = -1) (R 64 30) (bsK (R 66) g 0)))) w rf) = (I (-1), I 0, mk R w rf) := by
    rw [ii_t (show bvK (R 66) g 0 = -1 from rfl), updf_id, setR_id]; rfl
  simp only [e0] at l1
  have m1 := M_isGlass (S := S) (w := w) hS hr wf (⟨by omega, by omega⟩ : -2147483648 ≤ g ∧ g < 2147483648)
  rw [b2_t hg] at m1
  simp (disch := first | assumption | omega) only [fX13_partsOf, I_lit, orb_I, I_add, I_sub, I_mul, I_neg, nm_eq, bd0_s, bd2_s, un2_eq, un3_eq, un4_eq, un5_eq, un6_eq, cs2_l, cs2_r, mk_1, mk_2, wI_mk, wL_mk, wR_mk, setR_same, setR_setR, rZ_0, rZ_1, rZ_b2, it_b2, it_nb2, it_b21, it_nb21, I_lt, I_le, I_eq, I_div, castI, if_true, if_false, Classical.not_not, m1, Int.reduceEq, not_false_eq_true, l1]
noncomputable def allK (N : Int → Int) (g : Int) : Nat → Int32
  | 0 => I 0
  | k + 1 => ii (N (84 + k) = g) (allK N g k ||| (I 1 <<< (I k &&& I 31))) (allK N g k)
theorem all_bit {N : Int → Int} {g : Int} (k : Nat) (hk : k ≤ 6) (j : Nat) (hj : j < 8) : (allK N g k).toBitVec.getLsbD j = true ↔ (j < k ∧ N (84 + j) = g) := by
  induction k with
  | zero =>
    have : (allK N g 0).toBitVec = 0#32 := rfl
    rw [this]
    simp
  | succ k ih =>
    unfold allK
    by_cases h : N (84 + k) = g
    · rw [ii_t h]
      have e : allK N g k ||| (I 1 <<< (I (k : Int) &&& I 31)) = allK N g k ||| ((1 : Int32) <<< (I (k : Int) &&& 31)) := rfl
      rw [e, orb_bit (by omega) hj]
      simp only [Bool.or_eq_true, decide_eq_true_eq]
      rw [ih (by omega)]
      constructor
      · intro h1
        rcases h1 with h1 | h1
        · exact ⟨by omega, h1.2⟩
        · have : j = k := by omega
          subst this
          exact ⟨by omega, h⟩
      · intro ⟨h1, h2⟩
        by_cases h3 : j = k
        · exact Or.inr (by omega)
        · exact Or.inl ⟨by omega, h2⟩
    · rw [ii_f h, ih (by omega)]
      constructor
      · intro ⟨h1, h2⟩; exact ⟨by omega, h2⟩
      · intro ⟨h1, h2⟩
        refine ⟨?_, h2⟩
        by_cases h3 : j = k
        · subst h3; exact absurd h2 h
        · omega
theorem small_bit {s : Int} {n j : Nat} (hs : 0 ≤ s ∧ s < 2 ^ n) (hn : n ≤ 6) (hj : n ≤ j) : (I s).toBitVec.getLsbD j = false := by
  have h1 : (I s).toBitVec = BitVec.ofNat 32 s.toNat := by
    obtain ⟨m, hm⟩ := Int.eq_ofNat_of_zero_le hs.1
    subst hm
    show (Int32.ofInt _).toBitVec = _
    rw [Int32.toBitVec_ofInt, BitVec.ofInt_natCast]
    rfl
  have h2 : s.toNat < 2 ^ n := by
    have : ((s.toNat : Nat) : Int) < ((2 ^ n : Nat) : Int) := by
      rw [Int.toNat_of_nonneg hs.1]
      simpa using hs.2
    omega
  rw [h1]
  have h3 : s.toNat < 2 ^ j := Nat.lt_of_lt_of_le h2 (Nat.pow_le_pow_right (by omega) hj)
  simp [BitVec.getLsbD_ofNat, Nat.testBit_lt_two_pow h3]
theorem his_bits {N : Int → Int} {g s : Int} (wf : WFP N) (hs : 0 ≤ s ∧ s < pw (N 2)) : (I s &&& (allK N g (N 2).toNat ^^^ I (-1)) = I 0) ↔ hisK N g s (N 2).toNat := by
  have w2 := wf.2.2.1
  have hs2 : 0 ≤ s ∧ s < 2 ^ (N 2).toNat := hs
  have hz : ∀ j, j < 32 → (I s &&& (allK N g (N 2).toNat ^^^ I (-1))).toBitVec.getLsbD j = ((I s).toBitVec.getLsbD j && !(allK N g (N 2).toNat).toBitVec.getLsbD j) := by
    intro j hj
    rw [Int32.toBitVec_and, Int32.toBitVec_xor, BitVec.getLsbD_and, BitVec.getLsbD_xor]
    have : (I (-1)).toBitVec = BitVec.allOnes 32 := by decide
    rw [this, BitVec.getLsbD_allOnes]
    simp [hj]
  constructor
  · intro h j hj hne hh
    have h1 := hz j (by omega)
    rw [h] at h1
    have h2 : (I 0).toBitVec.getLsbD j = false := by
      have : (I 0).toBitVec = 0#32 := rfl
      rw [this]; simp
    rw [h2] at h1
    have h3 : (I s).toBitVec.getLsbD j = true := by
      have := (hasA_bit (s := I s) (j := (j : Int)) (by omega)).1 hh
      simpa using this
    have h4 : ¬ ((allK N g (N 2).toNat).toBitVec.getLsbD j = true) := by
      rw [all_bit _ (by omega) j (by omega)]
      exact fun h => hne h.2
    simp [h3, h4] at h1
  · intro h
    rw [← Int32.toBitVec_inj]
    apply BitVec.eq_of_getLsbD_eq
    intro j hj
    rw [hz j hj]
    have h2 : (I 0).toBitVec.getLsbD j = false := by
      have : (I 0).toBitVec = 0#32 := rfl
      rw [this]; simp
    rw [h2]
    by_cases hjn : j < (N 2).toNat
    · by_cases h3 : (I s).toBitVec.getLsbD j = true
      · have h4 : hasA (I s) (j : Int) := (hasA_bit (by omega)).2 (by simpa using h3)
        have h5 : N (84 + j) = g := by
          by_cases h6 : N (84 + j) = g
          · exact h6
          · exact absurd h4 (h j hjn h6)
        have h6 := (all_bit (N := N) (g := g) (N 2).toNat (by omega) j (by omega)).2 ⟨hjn, h5⟩
        simp [h6]
      · simp [h3]
    · rw [small_bit hs2 (by omega) (by omega)]
      rfl
theorem C_lesser {S : Nat → Nat × Nat} {Q : Nat → Int → Int} {w : Nat → Nat → Int64} {rf : Nat → Nat → Option Nat} {N : Int → Int} {x : Nat} {g s : Int} (hS : SCok S) (hr : RCok rf) (hx : isPar x) (wf : WFP N) (cp : CP x Q N) (hg : 0 ≤ g ∧ g < 4) : fX2_lesserSum S (mk Q w rf) (x + 13) (I g) (I s) = some (I (valA N g s)) := by
  have wf' := wf
  obtain ⟨wn0, wn1, wn2, wn3, wn4, wn5, wn6, wn7, wfr, wto, wff, wwa, wco, wwd, wgl, wgr, wnk, wda, wdr, wgo, wg1, wg2, wwx⟩ := wf
  obtain ⟨⟨c0, c1, c2, c3, c4, c5, c6, c7⟩, cpp, cpg, cpd, cpk⟩ := cp
  have l1 := loop_seq (f := fX2_lesserSum_L8 S (mk Q w rf) (x + 13) (I g) (I s)) (m := 1000) (fun k => (I (oneK N g s k), I (othK N g s k), I k)) (N 2).toNat (r := (I (oneK N g s (N 2).toNat), I (othK N g s (N 2).toNat))) (by omega) (by
    intro k hk
    have h5 : ¬ (N 2 ≤ (k : Int)) := by omega
    have h1 := wgo k (by omega) (by omega)
    obtain ⟨d1, d2, d3⟩ := cpk k (by omega) (by omega)
    simp (disch := first | assumption | omega) only [fX2_lesserSum_L8, fX2_lesserSum_b63, I_lit, orb_I, I_add, I_sub, I_mul, I_neg, nm_eq, bd0_s, bd2_s, un2_eq, un3_eq, un4_eq, un5_eq, un6_eq, cs2_l, cs2_r, mk_1, mk_2, wI_mk, wL_mk, wR_mk, setR_same, setR_setR, rZ_0, rZ_1, rZ_b2, it_b2, it_nb2, it_b21, it_nb21, I_lt, I_le, I_eq, I_div, castI, if_true, if_false, Classical.not_not, c2, h5, gP13_1, gP13_2, gP13_3, ldP15, ldP16, ldP17, d1, d2, d3]
    have ek : ((k + 1 : Nat) : Int) = (k : Int) + 1 := by omega
    rw [ek]
    show _ = some (Sum.inl (I (ii _ _ _), I (ii _ _ _), _))
    have eh : (I s >>> (I (k : Int) &&& I 31) &&& I 1 = I 1) = hasA (I s) k := rfl
    by_cases q1 : N (84 + k) = g
    · by_cases q2 : hasA (I s) k
      · have q3 : ¬ ¬ (I s >>> (I (k : Int) &&& I 31) &&& I 1 = I 1) := fun h => h q2
        rw [ii_t ⟨q1, q2⟩, ii_f (fun h => h.2 q2), if_neg (fun h => h q1), if_neg q3]
      · have q3 : ¬ (I s >>> (I (k : Int) &&& I 31) &&& I 1 = I 1) := q2
        rw [ii_f (fun h => q2 h.2), ii_t ⟨q1, q2⟩, if_neg (fun h => h q1), if_pos q3]
    · rw [ii_f (fun h => q1 h.1), ii_f (fun h => q1 h.1), if_pos q1]) (by
    have h5 : (N 2 ≤ ((N 2).toNat : Int)) := by omega
    simp (disch := first | assumption | omega) only [fX2_lesserSum_L8, I_lit, orb_I, I_add, I_sub, I_mul, I_neg, nm_eq, bd0_s, bd2_s, un2_eq, un3_eq, un4_eq, un5_eq, un6_eq, cs2_l, cs2_r, mk_1, mk_2, wI_mk, wL_mk, wR_mk, setR_same, setR_setR, rZ_0, rZ_1, rZ_b2, it_b2, it_nb2, it_b21, it_nb21, I_lt, I_le, I_eq, I_div, castI, if_true, if_false, Classical.not_not, c2, h5])
  have e0 : (I (oneK N g s 0), I (othK N g s 0), I ((0 : Nat) : Int)) = ((0 : Int32), (0 : Int32), (0 : Int32)) := rfl
  simp only [e0] at l1
  have hv := sums_r (g := g) (s := s) wf' (N 2).toNat (by omega)
  simp only [fX2_lesserSum, l1]
  simp (disch := first | assumption | omega) only [I_lit, orb_I, I_add, I_sub, I_mul, I_neg, nm_eq, bd0_s, bd2_s, un2_eq, un3_eq, un4_eq, un5_eq, un6_eq, cs2_l, cs2_r, mk_1, mk_2, wI_mk, wL_mk, wR_mk, setR_same, setR_setR, rZ_0, rZ_1, rZ_b2, it_b2, it_nb2, it_b21, it_nb21, I_lt, I_le, I_eq, I_div, castI, if_true, if_false, Classical.not_not, mnI_I]
  rfl
theorem C_allOf {S : Nat → Nat × Nat} {Q : Nat → Int → Int} {w : Nat → Nat → Int64} {rf : Nat → Nat → Option Nat} {N : Int → Int} {x : Nat} {g : Int} (hS : SCok S) (hr : RCok rf) (hx : isPar x) (wf : WFP N) (cp : CP x Q N) (hg : 0 ≤ g ∧ g < 4) : fX2_allOf S (mk Q w rf) (x + 13) (I g) = some (allK N g (N 2).toNat) := by
  obtain ⟨wn0, wn1, wn2, wn3, wn4, wn5, wn6, wn7, wfr, wto, wff, wwa, wco, wwd, wgl, wgr, wnk, wda, wdr, wgo, wg1, wg2, wwx⟩ := wf
  obtain ⟨⟨c0, c1, c2, c3, c4, c5, c6, c7⟩, cpp, cpg, cpd, cpk⟩ := cp
  have l1 := loop_seq (f := fX2_allOf_L4 S (mk Q w rf) (x + 13) (I g)) (m := 1000) (fun k => (allK N g k, I k)) (N 2).toNat (r := allK N g (N 2).toNat) (by omega) (by
    intro k hk
    have h5 : ¬ (N 2 ≤ (k : Int)) := by omega
    have h1 := wgo k (by omega) (by omega)
    obtain ⟨d1, d2, d3⟩ := cpk k (by omega) (by omega)
    simp (disch := first | assumption | omega) only [fX2_allOf_L4, fX2_allOf_b28, I_lit, orb_I, I_add, I_sub, I_mul, I_neg, nm_eq, bd0_s, bd2_s, un2_eq, un3_eq, un4_eq, un5_eq, un6_eq, cs2_l, cs2_r, mk_1, mk_2, wI_mk, wL_mk, wR_mk, setR_same, setR_setR, rZ_0, rZ_1, rZ_b2, it_b2, it_nb2, it_b21, it_nb21, I_lt, I_le, I_eq, I_div, castI, if_true, if_false, Classical.not_not, c2, h5, gP13_1, ldP15, d1]
    have ek : ((k + 1 : Nat) : Int) = (k : Int) + 1 := by omega
    rw [ek]
    show _ = some (Sum.inl (ii _ _ _, _))
    by_cases q1 : N (84 + k) = g
    · rw [ii_t q1, if_neg (fun h => h q1)]
    · rw [ii_f q1, if_pos q1]) (by
    have h5 : (N 2 ≤ ((N 2).toNat : Int)) := by omega
    simp (disch := first | assumption | omega) only [fX2_allOf_L4, I_lit, orb_I, I_add, I_sub, I_mul, I_neg, nm_eq, bd0_s, bd2_s, un2_eq, un3_eq, un4_eq, un5_eq, un6_eq, cs2_l, cs2_r, mk_1, mk_2, wI_mk, wL_mk, wR_mk, setR_same, setR_setR, rZ_0, rZ_1, rZ_b2, it_b2, it_nb2, it_b21, it_nb21, I_lt, I_le, I_eq, I_div, castI, if_true, if_false, Classical.not_not, c2, h5])
  have e0 : (allK N g 0, I ((0 : Nat) : Int)) = ((0 : Int32), (0 : Int32)) := rfl
  simp only [e0] at l1
  simp only [fX2_allOf, l1]
  rfl
theorem C_bestParting {S : Nat → Nat × Nat} {Q : Nat → Int → Int} {w : Nat → Nat → Int64} {rf : Nat → Nat → Option Nat} {N : Int → Int} {x : Nat} {g : Int} (hS : SCok S) (hr : RCok rf) (hx : isPar x) (wf : WFP N) (cp : CP x Q N) (hg : 0 ≤ g ∧ g < 4) : fX2_bestParting S (mk Q w rf) (x + 13) (I g) = some (I (bsK N g (pw (N 2)).toNat)) := by
  have w2 := wf.2.2.1
  obtain ⟨p1, p2⟩ := shl_pw (n := N 2) (by omega)
  have cp' := cp
  obtain ⟨⟨c0, c1, c2, c3, c4, c5, c6, c7⟩, cpp, cpg, cpd, cpk⟩ := cp
  have l1 := loop_seq (f := fX2_bestParting_L14 S (mk Q w rf) (x + 13) (I g) (allK N g (N 2).toNat)) (m := 1000) (fun s => (I (bsK N g s), I (bvK N g s), I s)) (pw (N 2)).toNat (r := I (bsK N g (pw (N 2)).toNat)) (by omega) (by
    intro s hs
    have h5 : ¬ (pw (N 2) ≤ (s : Int)) := by omega
    have hr1 := bv_r (g := g) wf s
    have hv2 := val_r (g := g) (s := (s : Int)) wf
    have hb := his_bits (g := g) (s := (s : Int)) wf (by omega)
    have cl := C_lesser (w := w) (s := (s : Int)) hS hr hx wf cp' hg
    show fX2_bestParting_L14 S (mk Q w rf) (x + 13) (I g) (allK N g (N 2).toNat) (I (bsK N g s), I (bvK N g s), I s) = some (Sum.inl (I (ii _ _ _), I (ii _ _ _), _))
    have ek : ((s + 1 : Nat) : Int) = (s : Int) + 1 := by omega
    rw [ek]
    by_cases q1 : hisK N g s (N 2).toNat
    · have q1' := hb.2 q1
      simp (disch := first | assumption | omega) only [fX2_bestParting_L14, fX2_bestParting_b45, fX2_bestParting_b61, I_lit, orb_I, I_add, I_sub, I_mul, I_neg, nm_eq, bd0_s, bd2_s, un2_eq, un3_eq, un4_eq, un5_eq, un6_eq, cs2_l, cs2_r, mk_1, mk_2, wI_mk, wL_mk, wR_mk, setR_same, setR_setR, rZ_0, rZ_1, rZ_b2, it_b2, it_nb2, it_b21, it_nb21, I_lt, I_le, I_eq, I_div, castI, if_true, if_false, Classical.not_not, c2, p1, h5, q1', cl, not_true]
      by_cases q2 : bvK N g s < valA N g s
      · have hc : hisK N g s (N 2).toNat ∧ bvK N g s < valA N g s := ⟨q1, q2⟩
        simp only [ii_t hc]
        rw [if_neg (by omega)]
      · have hc : ¬ (hisK N g s (N 2).toNat ∧ bvK N g s < valA N g s) := fun h => q2 h.2
        simp only [ii_f hc]
        rw [if_pos (by omega)]
    · have q1' : ¬ (I s &&& (allK N g (N 2).toNat ^^^ I (-1)) = I 0) := fun h => q1 (hb.1 h)
      have hc : ¬ (hisK N g s (N 2).toNat ∧ bvK N g s < valA N g s) := fun h => q1 h.1
      simp only [ii_f hc]
      have h6 : -1 ≤ bvK N g s := by omega
      simp (disch := first | assumption | omega) only [fX2_bestParting_L14, fX2_bestParting_b45, fX2_bestParting_b61, I_lit, orb_I, I_add, I_sub, I_mul, I_neg, nm_eq, bd0_s, bd2_s, un2_eq, un3_eq, un4_eq, un5_eq, un6_eq, cs2_l, cs2_r, mk_1, mk_2, wI_mk, wL_mk, wR_mk, setR_same, setR_setR, rZ_0, rZ_1, rZ_b2, it_b2, it_nb2, it_b21, it_nb21, I_lt, I_le, I_eq, I_div, castI, if_true, if_false, Classical.not_not, c2, p1, h5, q1', not_false_eq_true, h6]) (by
    have h5 : (pw (N 2) ≤ ((pw (N 2)).toNat : Int)) := by omega
    simp (disch := first | assumption | omega) only [fX2_bestParting_L14, I_lit, orb_I, I_add, I_sub, I_mul, I_neg, nm_eq, bd0_s, bd2_s, un2_eq, un3_eq, un4_eq, un5_eq, un6_eq, cs2_l, cs2_r, mk_1, mk_2, wI_mk, wL_mk, wR_mk, setR_same, setR_setR, rZ_0, rZ_1, rZ_b2, it_b2, it_nb2, it_b21, it_nb21, I_lt, I_le, I_eq, I_div, castI, if_true, if_false, Classical.not_not, c2, p1, h5])
  have e0 : (I (bsK N g 0), I (bvK N g 0), I ((0 : Nat) : Int)) = ((0 : Int32), (-1 : Int32), (0 : Int32)) := rfl
  simp only [e0] at l1
  simp only [fX2_bestParting, C_allOf hS hr hx wf cp' hg, bd0_s, l1]
theorem bv_pos {N : Int → Int} {g : Int} (wf : WFP N) (s : Nat) : 0 ≤ bvK N g (s + 1) := by
  have h0 : ∀ j : Nat, ¬ hasA (I 0) j ∨ 8 ≤ j := by
    intro j
    by_cases hj : j < 8
    · left
      rw [hasA_bit (by omega)]
      have : (I 0).toBitVec = 0#32 := rfl
      rw [this]; simp
    · right; omega
  have w2 := wf.2.2.1
  induction s with
  | zero =>
    have hv := val_r (g := g) (s := ((0 : Nat) : Int)) wf
    have hc : hisK N g ((0 : Nat) : Int) (N 2).toNat ∧ bvK N g 0 < valA N g ((0 : Nat) : Int) := by
      refine ⟨?_, Int.lt_of_lt_of_le (show bvK N g 0 < 0 from (by show (-1 : Int) < 0; omega)) hv.1⟩
      intro j hj _
      rcases h0 j with h | h
      · exact h
      · omega
    show 0 ≤ ii _ _ _
    rw [ii_t hc]
    exact hv.1
  | succ s ih =>
    unfold bvK
    have hv := val_r (g := g) (s := ((s + 1 : Nat) : Int)) wf
    unfold ii
    split
    · exact hv.1
    · exact ih
theorem INV_64 {Q : Nat → Int → Int} {w : Nat → Nat → Int64} {rf : Nat → Nat → Option Nat} {R : Nat → Int → Int} {v : Nat → Nat → Int64} {j x : Int} (inv : INV Q w rf R v) (hj : ¬ K64 j) : INV Q w rf (setR R 64 (updf (R 64) j x)) v :=
  INV_q inv (fun a h => rfl) rfl rfl (fun a h => setR_ne (by unfold KM at h; omega)) (fun i h => by
    have hne : i ≠ j := fun e => hj (by rw [← e]; exact h)
    rw [setR_same, updf_ne hne])
theorem parts_ok {S S' : Nat → Nat × Nat} {Q : Nat → Int → Int} {w : Nat → Nat → Int64} {rf : Nat → Nat → Option Nat} {R : Nat → Int → Int} {v : Nat → Nat → Int64} {rm : Nat → Nat → Option Nat} {g : Int} (hS : SCok S) (hS' : SMok S') (hr : RCok rf) (hr' : RMok rm) (inv : INV Q w rf R v) (hg : -2147483648 ≤ g ∧ g < 2147483648) : ∃ a b R', fX12_parts S (mk Q w rf) 64 (I g) = some (I a) ∧ fX12_parted S (mk Q w rf) 64 (I g) = some (I b) ∧ fX13_partsOf S' (mk R v rm) 64 (I g) = some (I a, mk R' v rm) ∧ (a = -1 → b = -1) ∧ (a ≠ -1 → R' 64 30 = b) ∧ (-1 ≤ a ∧ a ≤ 594) ∧ INV Q w rf R' v ∧ R' 64 32 = R 64 32 ∧ R' 78 = R 78 := by
  have inv' := inv
  obtain ⟨ta, ⟨wf, cp, nam⟩, -⟩ := inv
  have w1 := wf.2.1
  have w2 := wf.2.2.1
  have k1 := C_hasGlass (S := S) (w := w) hS hr wf cp hg
  have m1 := M_isGlass (S := S') (w := v) hS' hr' wf hg
  by_cases h : 0 ≤ g ∧ g < R 66 1
  · rw [b2_t h] at k1 m1
    obtain ⟨p1, p2⟩ := shl_pw (n := R 66 2) (by omega)
    have c1 := C_bestParting (w := w) hS hr isPar67 wf cp (by omega : 0 ≤ g ∧ g < 4)
    have c2 := C_lesser (w := w) (s := bsK (R 66) g (pw (R 66 2)).toNat) hS hr isPar67 wf cp (by omega : 0 ≤ g ∧ g < 4)
    have m2 := M_partsOf (S := S') (w := v) hS' hr' wf h
    have hb := bv_r (g := g) wf (pw (R 66 2)).toNat
    have e : (pw (R 66 2)).toNat = (pw (R 66 2)).toNat - 1 + 1 := by omega
    have hp : 0 ≤ bvK (R 66) g (pw (R 66 2)).toNat := by
      rw [e]; exact bv_pos wf _
    have hv := hb.2.2 (by omega)
    rw [hv] at c2
    have ip67 := isPar67
    refine ⟨bvK (R 66) g (pw (R 66 2)).toNat, bsK (R 66) g (pw (R 66 2)).toNat, _, ?_, ?_, m2, by omega, ?_, by omega, INV_64 inv' (by unfold K64; omega), ?_, ?_⟩
    · simp (disch := first | assumption | omega) only [fX12_parts, fX12_parts_b37, I_lit, orb_I, I_add, I_sub, I_mul, I_neg, nm_eq, bd0_s, bd2_s, un2_eq, un3_eq, un4_eq, un5_eq, un6_eq, cs2_l, cs2_r, mk_1, mk_2, wI_mk, wL_mk, wR_mk, setR_same, setR_setR, rZ_0, rZ_1, rZ_b2, it_b2, it_nb2, it_b21, it_nb21, I_lt, I_le, I_eq, I_div, castI, if_true, if_false, Classical.not_not, gC64_1, k1, Int.reduceEq, gP0_15]
      rw [c1]
      simp (disch := first | assumption | omega) only [I_lit, orb_I, I_add, I_sub, I_mul, I_neg, nm_eq, bd0_s, bd2_s, un2_eq, un3_eq, un4_eq, un5_eq, un6_eq, cs2_l, cs2_r, mk_1, mk_2, wI_mk, wL_mk, wR_mk, setR_same, setR_setR, rZ_0, rZ_1, rZ_b2, it_b2, it_nb2, it_b21, it_nb21, I_lt, I_le, I_eq, I_div, castI, if_true, if_false, Classical.not_not]
      rw [c2]
      rfl
    · simp (disch := first | assumption | omega) only [fX12_parted, fX12_parted_b26, I_lit, orb_I, I_add, I_sub, I_mul, I_neg, nm_eq, bd0_s, bd2_s, un2_eq, un3_eq, un4_eq, un5_eq, un6_eq, cs2_l, cs2_r, mk_1, mk_2, wI_mk, wL_mk, wR_mk, setR_same, setR_setR, rZ_0, rZ_1, rZ_b2, it_b2, it_nb2, it_b21, it_nb21, I_lt, I_le, I_eq, I_div, castI, if_true, if_false, Classical.not_not, gC64_1, k1, Int.reduceEq, gP0_15]
      rw [c1]
      rfl
    · intro _
      rw [setR_same, updf_same rfl, ii_f (by omega)]
    · rw [setR_same, updf_ne (by omega)]
    · rw [setR_ne (by omega)]
  · rw [b2_f h] at k1 m1
    refine ⟨-1, -1, R, ?_, ?_, ?_, fun _ => rfl, fun h => absurd rfl h, by omega, inv', rfl, rfl⟩
    · simp (disch := first | assumption | omega) only [fX12_parts, fX12_parts_b37, I_lit, orb_I, I_add, I_sub, I_mul, I_neg, nm_eq, bd0_s, bd2_s, un2_eq, un3_eq, un4_eq, un5_eq, un6_eq, cs2_l, cs2_r, mk_1, mk_2, wI_mk, wL_mk, wR_mk, setR_same, setR_setR, rZ_0, rZ_1, rZ_b2, it_b2, it_nb2, it_b21, it_nb21, I_lt, I_le, I_eq, I_div, castI, if_true, if_false, Classical.not_not, gC64_1, k1, Int.reduceEq]
    · simp (disch := first | assumption | omega) only [fX12_parted, fX12_parted_b26, I_lit, orb_I, I_add, I_sub, I_mul, I_neg, nm_eq, bd0_s, bd2_s, un2_eq, un3_eq, un4_eq, un5_eq, un6_eq, cs2_l, cs2_r, mk_1, mk_2, wI_mk, wL_mk, wR_mk, setR_same, setR_setR, rZ_0, rZ_1, rZ_b2, it_b2, it_nb2, it_b21, it_nb21, I_lt, I_le, I_eq, I_div, castI, if_true, if_false, Classical.not_not, gC64_1, k1, Int.reduceEq]
    · simp (disch := first | assumption | omega) only [fX13_partsOf, I_lit, orb_I, I_add, I_sub, I_mul, I_neg, nm_eq, bd0_s, bd2_s, un2_eq, un3_eq, un4_eq, un5_eq, un6_eq, cs2_l, cs2_r, mk_1, mk_2, wI_mk, wL_mk, wR_mk, setR_same, setR_setR, rZ_0, rZ_1, rZ_b2, it_b2, it_nb2, it_b21, it_nb21, I_lt, I_le, I_eq, I_div, castI, if_true, if_false, Classical.not_not, m1, Int.reduceEq, not_true]
theorem op_parts {S S' : Nat → Nat × Nat} (hS : SCok S) (hS' : SMok S') (a1 : Int32) : OpC0 (fun σ => fX12_parts S σ 64 a1) (fun σ => fX13_parts S' σ 64 a1) := by
  intro t σC σM ⟨Q, w, rf, R, v, rm, q1, q2, hr, hr', inv, tx⟩; subst q1; subst q2
  obtain ⟨g, rfl, hg⟩ := exI a1
  obtain ⟨a, b, R', e1, e2, e3, e4, e5, e6, e7, e8, e9⟩ := parts_ok (S := S) (S' := S') (R := th0 R) hS hS' hr hr' (INV_th inv) hg
  refine ⟨I a, mk R' v rm, e1, ?_, Q, w, rf, R', v, rm, rfl, rfl, hr, hr', e7, ?_⟩
  · simp only [fX13_parts, th0_I, e3]
    rfl
  · rw [e8, e9]; exact tx0 tx
theorem op_parted {S S' : Nat → Nat × Nat} (hS : SCok S) (hS' : SMok S') (a1 : Int32) : OpC0 (fun σ => fX12_parted S σ 64 a1) (fun σ => fX13_parted S' σ 64 a1) := by
  intro t σC σM ⟨Q, w, rf, R, v, rm, q1, q2, hr, hr', inv, tx⟩; subst q1; subst q2
  obtain ⟨g, rfl, hg⟩ := exI a1
  obtain ⟨a, b, R', e1, e2, e3, e4, e5, e6, e7, e8, e9⟩ := parts_ok (S := S) (S' := S') (R := th0 R) hS hS' hr hr' (INV_th inv) hg
  refine ⟨I b, mk R' v rm, e2, ?_, Q, w, rf, R', v, rm, rfl, rfl, hr, hr', e7, ?_⟩
  · simp only [fX13_parted, fX13_parted_b22, th0_I, e3]
    simp (disch := first | assumption | omega) only [I_lit, orb_I, I_add, I_sub, I_mul, I_neg, nm_eq, bd0_s, bd2_s, un2_eq, un3_eq, un4_eq, un5_eq, un6_eq, cs2_l, cs2_r, mk_1, mk_2, wI_mk, wL_mk, wR_mk, setR_same, setR_setR, rZ_0, rZ_1, rZ_b2, it_b2, it_nb2, it_b21, it_nb21, I_lt, I_le, I_eq, I_div, castI, if_true, if_false, Classical.not_not]
    by_cases h : a = -1
    · rw [if_neg (by omega), e4 h]
    · rw [if_pos h, e5 h]
  · rw [e8, e9]; exact tx0 tx
