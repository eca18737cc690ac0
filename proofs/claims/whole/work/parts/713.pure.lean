def fxR (a j : Nat) : Prop := a ≠ 121 ∧ a ≠ 198 ∧ a ≠ 202 ∧ a ≠ 238 ∧ a ≠ 268 ∧ ¬ (a = 65 ∧ j = 8)
theorem isPar_r {x : Nat} (h : isPar x) : x = 67 ∨ x = 85 ∨ x = 211 ∨ x = 241 := h
theorem RCok_of {rf rf' : Nat → Nat → Option Nat} (hr : RCok rf) (h : ∀ a j, fxR a j → rf' a j = rf a j) : RCok rf' := by
  obtain ⟨r1, r2, r3⟩ := hr
  refine ⟨?_, ?_, ?_⟩
  · intro x hx
    have hx' := isPar_r hx
    have := r1 x hx
    have q1 : ∀ j, rf' x j = rf x j := fun j => h x j (by unfold fxR; omega)
    have q2 : ∀ j, rf' (x + 13) j = rf (x + 13) j := fun j => h (x + 13) j (by unfold fxR; omega)
    simp only [q1, q2]
    exact this
  · intro l hl
    have hl' := hl
    unfold isLife at hl'
    have := r2 l hl
    have q1 : ∀ j, rf' l j = rf l j := fun j => h l j (by unfold fxR; omega)
    simp only [q1]
    exact this
  · simp (disch := (unfold fxR; omega)) only [h]
    exact r3
theorem ldR_mk {α : Type} {S : Nat → Nat × Nat} {R : Nat → Int → Int} {w : Nat → Nat → Int64} {rf : Nat → Nat → Option Nat} {F : Nat → Option α} {a n b : Nat} {z : Int} (hS : (S a).2 = n) (h : 0 ≤ z ∧ z < n) (h2 : n < 2147483648) (hb : rf a z.toNat = some b) : ldR S (mk R w rf) a (I z) F = F b := by
  have h1 : inb (I z) (S a).2 = true := inb_I h.1 (by rw [hS]; exact h.2) (by omega)
  simp only [ldR, h1, if_true, mk_3]
  rw [I_tc (by omega) (by omega), hb]
  rfl
theorem stR_mk {α : Type} {S : Nat → Nat × Nat} {R : Nat → Int → Int} {w : Nat → Nat → Int64} {rf : Nat → Nat → Option Nat} {F : mm → Option α} {a n b : Nat} {z : Int} (hS : (S a).2 = n) (h : 0 ≤ z ∧ z < n) (h2 : n < 2147483648) : stR S (mk R w rf) a (I z) b F = F (mk R w (up2 rf a z.toNat (some b))) := by
  have h1 : inb (I z) (S a).2 = true := inb_I h.1 (by rw [hS]; exact h.2) (by omega)
  simp only [stR, h1, if_true]
  rw [I_tc (by omega) (by omega)]
  rfl
def AgL (N N' : Int → Int) : Prop := ∀ j, j < 141 → N' j = N j
theorem AgL_P {N N' : Int → Int} (h : AgL N N') : AgP N N' := fun j hj => h j (by omega)
theorem AgL_symm {N N' : Int → Int} (h : AgL N N') : AgL N' N := fun j hj => (h j hj).symm
theorem AgL_refl (N : Int → Int) : AgL N N := fun j hj => rfl
theorem AgL_trans {N N' N'' : Int → Int} (h : AgL N N') (h2 : AgL N' N'') : AgL N N'' := fun j hj => (h2 j hj).trans (h j hj)
theorem CL_ag {l : Nat} {Q : Nat → Int → Int} {N N' : Int → Int} (ag : AgL N N') (wn0 : N 0 ≤ 8) (wn1 : N 1 ≤ 4) (cl : CL l Q N) : CL l Q N' := by
  obtain ⟨⟨c102, c104, c103⟩, clp, clg⟩ := cl
  have e0 := ag 0 (by omega)
  have e1 := ag 1 (by omega)
  refine ⟨⟨?_, ?_, ?_⟩, fun p h1 h2 => ?_, fun g h1 h2 => ?_⟩
  · rw [ag 102 (by omega)]; exact c102
  · rw [ag 104 (by omega)]; exact c104
  · rw [ag 103 (by omega)]; exact c103
  · rw [e0] at h2
    rw [ag (105 + p) (by omega), ag (113 + p) (by omega)]; exact clp p h1 h2
  · rw [e1] at h2
    rw [ag (125 + g) (by omega), ag (129 + g) (by omega), ag (121 + g) (by omega), ag (133 + g) (by omega), ag (137 + g) (by omega)]; exact clg g h1 h2
theorem rP_agL {N N' : Int → Int} {a lo hi n : Int} (h : rP N a lo hi n) (hn : a + n ≤ 141) (ag : AgL N N') : rP N' a lo hi n := fun p h1 h2 => by
  rw [ag (a + p) (by omega)]; exact h p h1 h2
theorem WFL_ag {N N' : Int → Int} (wl : WFL N) (wn1 : N 1 ≤ 4) (ag : AgL N N') : WFL N' := by
  obtain ⟨vh, vfo, vnk, vle, vti, vwa, vgl⟩ := wl
  unfold WFL
  rw [ag 102 (by omega), ag 1 (by omega)]
  refine ⟨vh, rP_agL vfo (by omega) ag, rP_agL vnk (by omega) ag, rP_agL vle (by omega) ag, rP_agL vti (by omega) ag, rP_agL vwa (by omega) ag, fun g h1 h2 => ?_⟩
  rw [ag (121 + g) (by omega), ag (125 + g) (by omega), ag (64 + g) (by omega)]
  exact vgl g h1 h2
def WFW (N : Int → Int) : Prop := ∀ g, 0 ≤ g → g < N 1 → (¬ lapA N g → N (133 + g) < N 3) ∧ (0 < N (125 + g) → N (133 + g) = 0)
theorem WFW_ag {N N' : Int → Int} (ww : WFW N) (wn1 : N 1 ≤ 4) (ag : AgL N N') : WFW N' := by
  intro g h1 h2
  rw [ag 1 (by omega)] at h2
  have h3 := ww g h1 h2
  unfold lapA at h3 ⊢
  rw [ag 104 (by omega), ag (133 + g) (by omega), ag 3 (by omega), ag (125 + g) (by omega)]
  exact h3
theorem W8_of {N : Int → Int} (wf : WFP N) (ww : WFW N) : W8 N := by
  intro g h1 h2 h3
  have h4 := (ww g h1 h2).1 h3
  have h5 := wf.2.2.2.1
  omega
def LOK (N : Int → Int) : Prop := WFL N ∧ WFW N
theorem LOK_ag {N N' : Int → Int} (h : LOK N) (wn1 : N 1 ≤ 4) (ag : AgL N N') : LOK N' := ⟨WFL_ag h.1 wn1 ag, WFW_ag h.2 wn1 ag⟩
def snN (H s : Int → Int) (i : Int) : Int → Int := fun j => if j < 102 then H j else s (39 * i + (j - 102))
def isUndo (l : Nat) : Prop := l = 122 ∨ l = 130 ∨ l = 138 ∨ l = 146 ∨ l = 154 ∨ l = 162 ∨ l = 170 ∨ l = 178
theorem isUndo_life {l : Nat} (h : isUndo l) : isLife l := by
  unfold isUndo at h
  unfold isLife
  omega
def UR (Q : Nat → Int → Int) (rf : Nat → Nat → Option Nat) (n : Int) (H s : Int → Int) : Prop := Q 120 1 = n ∧ (0 ≤ n ∧ n ≤ 8) ∧ ∃ L : Nat → Nat, (∀ i, i < 8 → rf 121 i = some (L i) ∧ isUndo (L i)) ∧ (∀ i j, i < 8 → j < 8 → L i = L j → i = j) ∧ (∀ i : Nat, (i : Int) < n → CL (L i) Q (snN H s i) ∧ LOK (snN H s i))
theorem CL_q {l : Nat} {Q Q' : Nat → Int → Int} {N : Int → Int} (cl : CL l Q N) (h : ∀ a, l ≤ a → a ≤ l + 7 → Q' a = Q a) : CL l Q' N := by
  unfold CL
  rw [h l (by omega) (by omega), h (l + 1) (by omega) (by omega), h (l + 2) (by omega) (by omega), h (l + 3) (by omega) (by omega), h (l + 4) (by omega) (by omega), h (l + 5) (by omega) (by omega), h (l + 6) (by omega) (by omega), h (l + 7) (by omega) (by omega)]
  exact cl
def rfK (rf : Nat → Nat → Option Nat) (k : Nat) : Nat → Nat → Option Nat := fun a j => if a = 121 ∧ j < k then rf 121 (j + 1) else rf a j
theorem rfK_succ {rf : Nat → Nat → Option Nat} {k : Nat} {b : Nat} (hb : rf 121 (k + 1) = some b) : up2 (rfK rf k) 121 k (some b) = rfK rf (k + 1) := by
  funext a j
  simp only [up2, rfK]
  by_cases ha : a = 121
  · by_cases hj : j = k
    · rw [if_pos ha, if_pos hj, if_pos ⟨ha, by omega⟩, hj, hb]
    · rw [if_pos ha, if_neg hj]
      by_cases h2 : j < k
      · rw [if_pos ⟨ha, h2⟩, if_pos ⟨ha, by omega⟩]
      · rw [if_neg (by omega), if_neg (by omega)]
  · rw [if_neg ha, if_neg (by omega), if_neg (by omega)]
theorem C_dropOldest {S : Nat → Nat × Nat} {Q : Nat → Int → Int} {w : Nat → Nat → Int64} {rf : Nat → Nat → Option Nat} {L : Nat → Nat} (hS : SCok S) (hr : RCok rf) (hL : ∀ i, i < 8 → rf 121 i = some (L i)) : fX9_dropOldest S (mk Q w rf) 120 = some (mk (setR Q 120 (updf (Q 120) 1 (Q 120 1 - 1))) w (up2 (rfK rf 7) 121 7 (some (L 0)))) := by
  have s121 : (S 121).2 = 8 := hS.2.2.2.2.2.2.2.2.2.2.2.2.2.2.2.2.2.2.2.2.2.2.2.2.2.2.2
  have hrk : ∀ k, RCok (rfK rf k) := fun k => RCok_of hr (by
    intro a j h
    unfold rfK
    rw [if_neg (by unfold fxR at h; omega)])
  have l1 := loop_seq (f := fX9_dropOldest_L9 S 120 (L 0)) (m := 1000) (fun k => (I (k + 1), mk Q w (rfK rf k))) 7 (r := mk Q w (rfK rf 7)) (by omega) (by
    intro k hk
    have h5 : ¬ ((8 : Int) ≤ (k : Int) + 1) := by omega
    have e2 : ((k : Int) + 1).toNat = k + 1 := by omega
    have e3 : ((k : Int) + 1 - 1).toNat = k := by omega
    have e1 : rfK rf k 121 ((k : Int) + 1).toNat = some (L (k + 1)) := by
      rw [e2]
      unfold rfK
      rw [if_neg (by omega)]
      exact hL (k + 1) (by omega)
    have hrk' := hrk k
    simp (disch := first | assumption | omega) only [fX9_dropOldest_L9, I_lit, orb_I, I_add, I_sub, I_mul, I_neg, nm_eq, bd0_s, bd2_s, un2_eq, un3_eq, un4_eq, un5_eq, un6_eq, cs2_l, cs2_r, mk_1, mk_2, wI_mk, wL_mk, wR_mk, setR_same, setR_setR, rZ_0, rZ_1, rZ_b2, it_b2, it_nb2, it_b21, it_nb21, I_lt, I_le, I_eq, I_div, castI, if_true, if_false, Classical.not_not, gC120_0, h5]
    rw [ldR_mk s121 (by omega) (by omega) e1]
    rw [stR_mk s121 (by omega) (by omega)]
    rw [e3, rfK_succ (hL (k + 1) (by omega))]
    rfl) (by
    simp (disch := first | assumption | omega) only [fX9_dropOldest_L9, I_lit, orb_I, I_add, I_sub, I_mul, I_neg, nm_eq, bd0_s, bd2_s, un2_eq, un3_eq, un4_eq, un5_eq, un6_eq, cs2_l, cs2_r, mk_1, mk_2, wI_mk, wL_mk, wR_mk, setR_same, setR_setR, rZ_0, rZ_1, rZ_b2, it_b2, it_nb2, it_b21, it_nb21, I_lt, I_le, I_eq, I_div, castI, if_true, if_false, Classical.not_not]
    rw [if_pos (by omega)])
  have e0 : (I (((0 : Nat) : Int) + 1), mk Q w (rfK rf 0)) = ((1 : Int32), mk Q w rf) := by
    have : rfK rf 0 = rf := by
      funext a j
      unfold rfK
      rw [if_neg (by omega)]
    rw [this]
    rfl
  simp only [e0] at l1
  have e1 : rf 121 (Int.toNat 0) = some (L 0) := hL 0 (by omega)
  have hrk' := hrk 7
  have h0 : ldR S (mk Q w rf) 121 (0 : Int32) = fun (F : Nat → Option mm) => F (L 0) := by
    funext F
    rw [I_lit]
    exact ldR_mk s121 (by omega) (by omega) e1
  simp only [fX9_dropOldest, gC120_0 hr, h0, l1]
  simp (disch := first | assumption | omega) only [I_lit, orb_I, I_add, I_sub, I_mul, I_neg, nm_eq, bd0_s, bd2_s, un2_eq, un3_eq, un4_eq, un5_eq, un6_eq, cs2_l, cs2_r, mk_1, mk_2, wI_mk, wL_mk, wR_mk, setR_same, setR_setR, rZ_0, rZ_1, rZ_b2, it_b2, it_nb2, it_b21, it_nb21, I_lt, I_le, I_eq, I_div, castI, if_true, if_false, Classical.not_not, gC120_0]
  rw [stR_mk s121 (by omega) (by omega)]
  simp (disch := first | assumption | omega) only [I_lit, orb_I, I_add, I_sub, I_mul, I_neg, nm_eq, bd0_s, bd2_s, un2_eq, un3_eq, un4_eq, un5_eq, un6_eq, cs2_l, cs2_r, mk_1, mk_2, wI_mk, wL_mk, wR_mk, setR_same, setR_setR, rZ_0, rZ_1, rZ_b2, it_b2, it_nb2, it_b21, it_nb21, I_lt, I_le, I_eq, I_div, castI, if_true, if_false, Classical.not_not]
  rfl
