theorem step_ne {N : Int → Int} {g z : Int} (wf : WFP N) (hg : 0 ≤ g ∧ g < N 1) (h1 : z ≠ 125 + g) (h2 : z ≠ 133 + g) (h3 : z ≠ 137 + g) (h4 : z ≠ 104) (h5 : z < 113 ∨ 121 ≤ z) : stepG N g z = N z := by
  obtain ⟨g1, g2, g4, g5⟩ := WFP_own wf hg
  have wn0 := wf.1
  unfold stepG endA waitA turnA ii
  (repeat' split) <;> simp (disch := omega) only [updf_ne]
theorem turn_104 {N : Int → Int} {p : Int} (h : 0 ≤ N (48 + p)) (hp : 0 ≤ p) : turnA N p 104 = N 104 := by
  unfold turnA
  simp (disch := omega) only [updf_ne]
theorem step_lap {N : Int → Int} {g j : Int} (wf : WFP N) (hg : 0 ≤ g ∧ g < N 1) (hj : 0 ≤ j ∧ j < 4) (hne : j ≠ g) : lapA (stepG N g) j ↔ lapA N j := by
  obtain ⟨g1, g2, g4, g5⟩ := WFP_own wf hg
  have wn1 := wf.2.1
  unfold stepG endA waitA ii lapA
  (repeat' split)
  · rfl
  · rw [turn_104 (by omega) g1.1]
  · rw [turn_104 (by omega) g2.1]
  · rw [updf_ne (by omega)]
  · rw [updf_same rfl, has_orb (by omega) (by omega)]
    constructor
    · intro h
      rcases h with h | h
      · exact h
      · exact absurd h hne
    · exact fun h => Or.inl h
  · rw [updf_ne (by omega)]
theorem lap_step {N : Int → Int} {g j : Int} (wf : WFP N) (hg : 0 ≤ g ∧ g < N 1) (hj : 0 ≤ j ∧ j < 4) (h : lapA N j) : lapA (stepG N g) j := by
  by_cases hne : j = g
  · subst hne
    unfold stepG
    rw [ii_t h]; exact h
  · exact (step_lap wf hg hj hne).2 h
theorem turn_133 {N : Int → Int} {p : Int} (h : 0 ≤ N (48 + p)) (hp : 0 ≤ p ∧ p < 8) : turnA N p (133 + N (48 + p)) = 0 := by
  unfold turnA
  rw [updf_ne (by omega), updf_ne (by omega), updf_same rfl]
def W8 (N : Int → Int) : Prop := ∀ g, 0 ≤ g → g < N 1 → ¬ lapA N g → N (133 + g) ≤ 8
theorem W8_step {N : Int → Int} {g : Int} (wf : WFP N) (w8 : W8 N) (hg : 0 ≤ g ∧ g < N 1) : W8 (stepG N g) := by
  intro j h1 h2 h3
  rw [step_ne wf hg (by omega) (by omega) (by omega) (by omega) (by omega)] at h2
  have wn0 := wf.1
  have wn1 := wf.2.1
  have wn3 := wf.2.2.2.1
  by_cases hne : j = g
  · subst hne
    obtain ⟨g1, g2, g4, g5⟩ := WFP_own wf hg
    have hl : ¬ lapA N j := fun h => h3 (lap_step wf hg ⟨h1, by omega⟩ h)
    have h8 := w8 j h1 h2 hl
    revert h3
    unfold stepG endA waitA ii
    rw [if_neg hl]
    (repeat' split)
    · intro _
      have := turn_133 (N := N) (p := N (56 + j)) (by omega) (by omega)
      rw [g4] at this
      omega
    · intro _
      have := turn_133 (N := N) (p := N (60 + j)) (by omega) (by omega)
      rw [g5] at this
      omega
    · intro _
      rw [updf_same rfl]
      omega
    · intro h
      exfalso
      apply h
      unfold lapA
      rw [updf_same rfl, has_orb (by omega) (by omega)]
      exact Or.inr rfl
    · intro _
      rw [updf_ne (by omega)]
      exact h8
  · rw [step_lap wf hg ⟨h1, by omega⟩ hne] at h3
    rw [step_ne wf hg (by omega) (by omega) (by omega) (by omega) (by omega)]
    exact w8 j h1 h2 h3
def OKL (N N' : Int → Int) : Prop := AgP N N' ∧ WFL N' ∧ W8 N'
theorem OKL_wf {N N' : Int → Int} (wf : WFP N) (h : OKL N N') : WFP N' := WFP_ag wf h.1
theorem OKL_n {N N' : Int → Int} (h : OKL N N') {j : Int} (hj : j < 102) : N' j = N j := h.1 j hj
theorem OKL_step {N N' : Int → Int} {g : Int} (wf : WFP N) (h : OKL N N') (hg : 0 ≤ g ∧ g < N 1) : OKL N (stepG N' g) := by
  have wf' := OKL_wf wf h
  have hg' : 0 ≤ g ∧ g < N' 1 := by rw [OKL_n h (by omega)]; exact hg
  exact ⟨AgP_trans h.1 (AgP_step wf' hg'), WFL_step wf' h.2.1 hg' (h.2.2 g hg'.1 hg'.2), W8_step wf' h.2.2 hg'⟩
theorem OKL_hourG {N : Int → Int} (wf : WFP N) (wl : WFL N) (w8 : W8 N) (k : Nat) (hk : k ≤ N 1) : OKL N (hourG N k) ∧ hourG N k 102 = N 102 ∧ hourG N k 103 = N 103 := by
  induction k with
  | zero => exact ⟨⟨AgP_refl N, wl, w8⟩, rfl, rfl⟩
  | succ k ih =>
    obtain ⟨i1, i2, i3⟩ := ih (by omega)
    have wf' := OKL_wf wf i1
    have hg : 0 ≤ (k : Int) ∧ (k : Int) < N 1 := by omega
    have hg' : 0 ≤ (k : Int) ∧ (k : Int) < hourG N k 1 := by rw [OKL_n i1 (by omega)]; exact hg
    refine ⟨OKL_step wf i1 hg, ?_, ?_⟩
    · show stepG (hourG N k) k 102 = _
      rw [hour_step wf' hg', i2]
    · show stepG (hourG N k) k 103 = _
      rw [step_ne wf' hg' (by omega) (by omega) (by omega) (by omega) (by omega), i3]
theorem fondG_ne {N : Int → Int} {k : Nat} {z : Int} (hz : z < 105 ∨ 105 + k ≤ z) : fondG N k z = N z := by
  induction k with
  | zero => rfl
  | succ k ih =>
    show updf _ _ _ z = _
    rw [updf_ne (by omega)]
    exact ih (by omega)
theorem fondG_at {N : Int → Int} {k : Nat} {p : Int} (hp : 0 ≤ p ∧ p < 8) (hk : k ≤ 8) : fondG N k (105 + p) = ii (p < k) (fndA N p (N (105 + p))) (N (105 + p)) := by
  induction k with
  | zero =>
    rw [ii_f (by omega)]; rfl
  | succ k ih =>
    show updf _ _ _ (105 + p) = _
    by_cases h : p = k
    · rw [updf_same (by omega), ii_t (by omega)]
      have e : fondG N k (105 + k) = N (105 + p) := by
        rw [fondG_ne (by omega), h]
      rw [e]
      unfold fndA
      rw [fondG_ne (by omega), fondG_ne (by omega), h]
    · rw [updf_ne (by omega), ih (by omega)]
      by_cases h2 : p < k
      · rw [ii_t h2, ii_t (by omega)]
      · rw [ii_f h2, ii_f (by omega)]
theorem OKL_fond {N N' : Int → Int} (wf : WFP N) (h : OKL N N') (k : Nat) (hk : k ≤ 8) : OKL N (fondG N' k) := by
  induction k with
  | zero => exact h
  | succ k ih =>
    have i := ih (by omega)
    have wf' := OKL_wf wf i
    have h1 := i.2.1.2.1 k (by omega) (by omega)
    have h2 := fndA_r wf' (p := k) (by omega) h1
    have hn1 := OKL_n i (j := 1) (by omega)
    have wn1 := wf.2.1
    refine ⟨AgP_upd i.1 (by omega), ?_, ?_⟩
    · exact WFL_upd i.2.1 (by omega) (by omega) (by omega) (by omega) (by omega) (by omega) (by omega) (by omega)
    · intro g g1 g2 g3
      change g < updf _ _ _ 1 at g2
      change ¬ lapA (updf _ _ _) g at g3
      show updf _ _ _ (133 + g) ≤ 8
      unfold lapA at g3
      rw [updf_ne (by omega)] at g2 g3 ⊢
      exact i.2.2 g g1 g2 g3
theorem OKL_upd {N N' : Int → Int} {z v : Int} (wf : WFP N) (h : OKL N N') (hz : z = 102 ∨ z = 103) (hv : z = 102 → 0 ≤ v ∧ v ≤ 600) : OKL N (updf N' z v) := by
  have hn1 := OKL_n h (j := 1) (by omega)
  have wn1 := wf.2.1
  refine ⟨AgP_upd h.1 (by omega), WFL_upd h.2.1 (by omega) (by omega) hv (by omega) (by omega) (by omega) (by omega) (by omega), ?_⟩
  intro g g1 g2 g3
  unfold lapA at g3
  rw [updf_ne (by omega)] at g2 g3 ⊢
  exact h.2.2 g g1 g2 g3
theorem OKL_rest {N N' : Int → Int} (wf : WFP N) (h : OKL N N') : OKL N (restA N') := by
  have wf' := OKL_wf wf h
  have wn0 := wf'.1
  have h1 : OKL N (updf N' 103 0) := OKL_upd wf h (Or.inr rfl) (by omega)
  unfold restA ii
  split
  · exact OKL_fond wf h1 _ (by omega)
  · exact h1
theorem rest_102 {N : Int → Int} : restA N 102 = N 102 := by
  unfold restA ii
  split
  · rw [fondG_ne (by omega), updf_ne (by omega)]
  · rw [updf_ne (by omega)]
theorem OKL_hour {N N' : Int → Int} (wf : WFP N) (h : OKL N N') (hh : N' 102 < 600) : OKL N (hourA N') ∧ hourA N' 102 = N' 102 + 1 ∧ hourA N' 103 = 0 := by
  have wf' := OKL_wf wf h
  have wn1 := wf'.2.1
  have h0 := h.2.1.1
  obtain ⟨i1, i2, i3⟩ := OKL_hourG wf' h.2.1 h.2.2 (N' 1).toNat (by omega)
  have i4 : OKL N (hourG N' (N' 1).toNat) := ⟨AgP_trans h.1 i1.1, i1.2⟩
  refine ⟨?_, ?_, ?_⟩
  · exact OKL_upd wf (OKL_rest wf i4) (Or.inl rfl) (by omega)
  · exact updf_same rfl
  · unfold hourA restA ii
    rw [updf_ne (by omega)]
    split
    · rw [fondG_ne (by omega), updf_same rfl]
    · rw [updf_same rfl]
theorem M_oneHour {S : Nat → Nat × Nat} {R : Nat → Int → Int} {w : Nat → Nat → Int64} {rf : Nat → Nat → Option Nat} (hS : SMok S) (hr : RMok rf) (wf : WFP (R 66)) (wl : WFL (R 66)) (w8 : W8 (R 66)) : fX13_oneHour S (mk R w rf) 64 = some (mk (setR R 66 (hourA (R 66))) w rf) := by
  have wn0 := wf.1
  have wn1 := wf.2.1
  have hG := OKL_hourG wf wl w8
  have l1 := loop_seq (f := fX13_oneHour_L2 S 64) (m := 1000) (fun k => (I k, mk (setR R 66 (hourG (R 66) k)) w rf)) (R 66 1).toNat (r := mk (setR R 66 (hourG (R 66) (R 66 1).toNat)) w rf) (by omega) (by
    intro k hk
    obtain ⟨i1, i2, i3⟩ := hG k (by omega)
    have e := M_step (S := S) (R := setR R 66 (hourG (R 66) k)) (w := w) (g := k) hS hr (by rw [setR_same]; exact OKL_wf wf i1) (by rw [setR_same]; exact i1.2.1) (by rw [setR_same, OKL_n i1 (by omega)]; omega)
    rw [setR_same, setR_setR] at e
    exact e) (by
    obtain ⟨i1, i2, i3⟩ := hG (R 66 1).toNat (by omega)
    have e : R 66 1 ≤ ((R 66 1).toNat : Int) := by omega
    simp (disch := first | assumption | omega) only [fX13_oneHour_L2, I_lit, orb_I, I_add, I_sub, I_mul, I_neg, nm_eq, bd0_s, bd2_s, un2_eq, un3_eq, un4_eq, un5_eq, un6_eq, cs2_l, cs2_r, mk_1, mk_2, wI_mk, wL_mk, wR_mk, setR_same, setR_setR, rZ_0, rZ_1, rZ_b2, it_b2, it_nb2, it_b21, it_nb21, I_lt, I_le, I_eq, I_div, castI, if_true, if_false, Classical.not_not, gM14, ldM66, OKL_n i1 (j := 1) (by omega), e])
  have e0 : ((I ((0 : Nat) : Int)), mk (setR R 66 (hourG (R 66) 0)) w rf) = ((0 : Int32), mk R w rf) := by
    show (I 0, mk (setR R 66 (R 66)) w rf) = _
    rw [setR_id]; rfl
  simp only [e0] at l1
  obtain ⟨i1, i2, i3⟩ := hG (R 66 1).toNat (by omega)
  have hb := i1.2.1.1
  have j0 : OKL (R 66) (updf (hourG (R 66) (R 66 1).toNat) 103 0) := OKL_upd wf i1 (Or.inr rfl) (by omega)
  simp only [fX13_oneHour, l1]
  generalize hA : hourG (R 66) (R 66 1).toNat = A at *
  have l2 := loop_seq (f := fX13_oneHour_L110 S 64) (m := 1000) (fun k => (I k, mk (setR R 66 (fondG (updf A 103 0) k)) w rf)) (R 66 0).toNat (r := mk (setR R 66 (fondG (updf A 103 0) (R 66 0).toNat)) w rf) (by omega) (by
    intro k hk
    have i := OKL_fond wf j0 k (by omega)
    have h5 : ¬ (R 66 0 ≤ (k : Int)) := by omega
    have h6 := i.2.1.2.1 k (by omega) (by omega)
    have h7 := M_fonder (S := S) (w := w) (R := setR R 66 (fondG (updf A 103 0) k)) hS hr (p := k) (v := fondG (updf A 103 0) k (105 + k)) (by rw [setR_same]; exact OKL_wf wf i) (by omega) h6
    rw [setR_same] at h7
    simp (disch := first | assumption | omega) only [fX13_oneHour_L110, I_lit, orb_I, I_add, I_sub, I_mul, I_neg, nm_eq, bd0_s, bd2_s, un2_eq, un3_eq, un4_eq, un5_eq, un6_eq, cs2_l, cs2_r, mk_1, mk_2, wI_mk, wL_mk, wR_mk, setR_same, setR_setR, rZ_0, rZ_1, rZ_b2, it_b2, it_nb2, it_b21, it_nb21, I_lt, I_le, I_eq, I_div, castI, if_true, if_false, Classical.not_not, gM14, ldM66, stM66, OKL_n i (j := 0) (by omega), h5, h7]
    rfl) (by
    have i := OKL_fond wf j0 (R 66 0).toNat (by omega)
    have e : R 66 0 ≤ ((R 66 0).toNat : Int) := by omega
    simp (disch := first | assumption | omega) only [fX13_oneHour_L110, I_lit, orb_I, I_add, I_sub, I_mul, I_neg, nm_eq, bd0_s, bd2_s, un2_eq, un3_eq, un4_eq, un5_eq, un6_eq, cs2_l, cs2_r, mk_1, mk_2, wI_mk, wL_mk, wR_mk, setR_same, setR_setR, rZ_0, rZ_1, rZ_b2, it_b2, it_nb2, it_b21, it_nb21, I_lt, I_le, I_eq, I_div, castI, if_true, if_false, Classical.not_not, gM14, ldM66, OKL_n i (j := 0) (by omega), e])
  have e1 : ((I ((0 : Nat) : Int)), mk (setR R 66 (fondG (updf A 103 0) 0)) w rf) = (I 0, mk (setR R 66 (updf A 103 0)) w rf) := rfl
  simp only [e1] at l2
  have e2 : A 0 = R 66 0 := OKL_n i1 (by omega)
  have f2 : fondG (updf A 103 0) (R 66 0).toNat 102 = A 102 := by rw [fondG_ne (by omega), updf_ne (by omega)]
  have e3 : A 102 - A 102 / 24 * 24 = A 102 % 24 := by omega
  simp (disch := first | assumption | omega) only [I_lit, orb_I, I_add, I_sub, I_mul, I_neg, nm_eq, bd0_s, bd2_s, un2_eq, un3_eq, un4_eq, un5_eq, un6_eq, cs2_l, cs2_r, mk_1, mk_2, wI_mk, wL_mk, wR_mk, setR_same, setR_setR, rZ_0, rZ_1, rZ_b2, it_b2, it_nb2, it_b21, it_nb21, I_lt, I_le, I_eq, I_div, castI, if_true, if_false, Classical.not_not, gM14, ldM66, stM66, fX13_oneHour_b149, updf_ne, l2, f2, e3]
  unfold hourA restA
  rw [hA, e2, ← i2]
  by_cases h : A 102 % 24 = 23
  · rw [ii_t h]
    simp only [h, not_true, if_false]
  · rw [ii_f h]
    simp only [h, not_false_eq_true, if_true]
