theorem sb_t {P : Prop} (h : P) : some (I 1) = some (b2 P) := by rw [b2_t h]; rfl
theorem sb_f {P : Prop} (h : ¬ P) : some (I 0) = some (b2 P) := by rw [b2_f h]; rfl
theorem M_isIn {S : Nat → Nat × Nat} {σ : mm} {v a b : Int} (hv : -2147483648 ≤ v ∧ v < 2147483648) (ha : -2147483648 ≤ a ∧ a < 2147483648) (hb : -2147483648 ≤ b ∧ b < 2147483648) : fX13_isIn S σ (I v) (I a) (I b) = some (b2 (a ≤ v ∧ v ≤ b)) := by
  simp (disch := first | assumption | omega) only [fX13_isIn, fX13_isIn_b14, fX13_isIn_b15, I_lit, orb_I, I_add, I_sub, I_mul, I_neg, nm_eq, bd0_s, bd2_s, un2_eq, un3_eq, un4_eq, un5_eq, un6_eq, cs2_l, cs2_r, mk_1, mk_2, wI_mk, wL_mk, wR_mk, setR_same, setR_setR, rZ_0, rZ_1, rZ_b2, it_b2, it_nb2, it_b21, it_nb21, I_lt, I_le, I_eq, I_div, castI, if_true, if_false, Classical.not_not]
  (repeat' split) <;> (first | exact sb_t (by omega) | exact sb_f (by omega))
def hasA (s : Int32) (k : Int) : Prop := (s >>> (I k &&& 31)) &&& 1 = 1
theorem M_has {S : Nat → Nat × Nat} {σ : mm} {s : Int32} {k : Int} : fX13_has S σ s (I k) = some (b2 (hasA s k)) := by
  by_cases h : hasA s k
  · rw [b2_t h]
    unfold hasA at h
    simp only [fX13_has, fX13_has_b14, h]
    rfl
  · rw [b2_f h]
    unfold hasA at h
    simp only [fX13_has, fX13_has_b14, h]
    rfl
theorem M_least {S : Nat → Nat × Nat} {σ : mm} {a b : Int} (ha : -2147483648 ≤ a ∧ a < 2147483648) (hb : -2147483648 ≤ b ∧ b < 2147483648) : fX13_least S σ (I a) (I b) = some (I (min a b)) := by
  simp (disch := first | assumption | omega) only [fX13_least, fX13_least_b10, I_lit, orb_I, I_add, I_sub, I_mul, I_neg, nm_eq, bd0_s, bd2_s, un2_eq, un3_eq, un4_eq, un5_eq, un6_eq, cs2_l, cs2_r, mk_1, mk_2, wI_mk, wL_mk, wR_mk, setR_same, setR_setR, rZ_0, rZ_1, rZ_b2, it_b2, it_nb2, it_b21, it_nb21, I_lt, I_le, I_eq, I_div, castI, if_true, if_false, Classical.not_not]
  (repeat' split) <;> (congr 2; omega)
def upA (f t h : Int) : Prop := f = t ∨ (f < t ∧ f ≤ h % 24 ∧ h % 24 < t) ∨ (t < f ∧ (f ≤ h % 24 ∨ h % 24 < t))
def rP (N : Int → Int) (a lo hi n : Int) : Prop := ∀ p, 0 ≤ p → p < n → lo ≤ N (a + p) ∧ N (a + p) ≤ hi
def WFP (N : Int → Int) : Prop := (0 ≤ N 0 ∧ N 0 ≤ 8) ∧ (0 ≤ N 1 ∧ N 1 ≤ 4) ∧ (0 ≤ N 2 ∧ N 2 ≤ 6) ∧ (1 ≤ N 3 ∧ N 3 ≤ 9) ∧ (0 ≤ N 4 ∧ N 4 ≤ 99) ∧ (0 ≤ N 5 ∧ N 5 ≤ 1) ∧ (0 ≤ N 6 ∧ N 6 ≤ 1) ∧ (0 ≤ N 7 ∧ N 7 ≤ 6) ∧ rP N 8 0 23 8 ∧ rP N 16 0 23 8 ∧ rP N 24 0 99 8 ∧ rP N 32 0 9 8 ∧ rP N 40 0 9 8 ∧ (∀ p, 0 ≤ p → p < 8 → -1 ≤ N (48 + p) ∧ N (48 + p) < N 1) ∧ (∀ g, 0 ≤ g → g < N 1 → (0 ≤ N (56 + g) ∧ N (56 + g) < N 0) ∧ (0 ≤ N (60 + g) ∧ N (60 + g) < N 0) ∧ N (56 + g) ≠ N (60 + g) ∧ N (48 + N (56 + g)) = g ∧ N (48 + N (60 + g)) = g ∧ 1 ≤ N (64 + g) ∧ 1 ≤ N (68 + g)) ∧ rP N 64 0 250 4 ∧ rP N 68 0 9 4 ∧ rP N 72 0 599 6 ∧ rP N 78 0 599 6 ∧ rP N 84 0 3 6 ∧ rP N 90 0 99 6 ∧ rP N 96 0 99 6 ∧ (∀ p, 0 ≤ p → p < N 0 → 0 ≤ N (48 + p) → N (56 + N (48 + p)) = p ∨ N (60 + N (48 + p)) = p)
def WFL (N : Int → Int) : Prop := (0 ≤ N 102 ∧ N 102 ≤ 600) ∧ rP N 105 0 99 8 ∧ rP N 121 0 9 4 ∧ rP N 125 0 250 4 ∧ rP N 129 0 2 4 ∧ rP N 133 0 9 4 ∧ (∀ g, 0 ≤ g → g < N 1 → 1 ≤ N (121 + g) ∧ N (125 + g) ≤ N (64 + g))
theorem M_isUp {S : Nat → Nat × Nat} {R : Nat → Int → Int} {w : Nat → Nat → Int64} {rf : Nat → Nat → Option Nat} {p h : Int} (hS : SMok S) (hr : RMok rf) (wf : WFP (R 66)) (hp : 0 ≤ p ∧ p < 8) (hh : 0 ≤ h ∧ h < 2147483648) : fX13_isUp S (mk R w rf) 64 (I p) (I h) = some (b2 (upA (R 66 (8 + p)) (R 66 (16 + p)) h)) := by
  obtain ⟨w1, w2, w3, w4, w5, w6, w7, w8, w9, w10, w11⟩ := wf
  have h1 := w9 p hp.1 hp.2
  have h2 := w10 p hp.1 hp.2
  unfold upA
  simp (disch := first | assumption | omega) only [fX13_isUp, fX13_isUp_b68, fX13_isUp_b72, fX13_isUp_b73, I_lit, orb_I, I_add, I_sub, I_mul, I_neg, nm_eq, bd0_s, bd2_s, un2_eq, un3_eq, un4_eq, un5_eq, un6_eq, cs2_l, cs2_r, mk_1, mk_2, wI_mk, wL_mk, wR_mk, setR_same, setR_setR, rZ_0, rZ_1, rZ_b2, it_b2, it_nb2, it_b21, it_nb21, I_lt, I_le, I_eq, I_div, castI, if_true, if_false, Classical.not_not, gM14, ldM66]
  (repeat' split) <;> (first | exact sb_t (by omega) | exact sb_f (by omega))
