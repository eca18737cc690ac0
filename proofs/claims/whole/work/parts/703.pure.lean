def CP (x : Nat) (Q : Nat → Int → Int) (N : Int → Int) : Prop := (Q x 6 = N 0 ∧ Q x 12 = N 1 ∧ Q (x + 13) 4 = N 2 ∧ Q x 16 = N 3 ∧ Q x 17 = N 4 ∧ Q x 18 = N 5 ∧ Q x 19 = N 6 ∧ Q x 14 = N 7) ∧ (∀ p, 0 ≤ p → p < N 0 → Q (x + 2) p = N (8 + p) ∧ Q (x + 3) p = N (16 + p) ∧ Q (x + 4) p = N (24 + p) ∧ Q (x + 5) p = N (32 + p) ∧ Q (x + 6) p = N (40 + p)) ∧ (∀ g, 0 ≤ g → g < N 1 → Q (x + 8) g = N (56 + g) ∧ Q (x + 9) g = N (60 + g) ∧ Q (x + 10) g = N (64 + g) ∧ Q (x + 11) g = N (68 + g)) ∧ (∀ k, 0 ≤ k → k < N 7 → Q (x + 12) (2 * k) = N (72 + k) ∧ Q (x + 12) (2 * k + 1) = N (78 + k)) ∧ (∀ k, 0 ≤ k → k < N 2 → Q (x + 15) k = N (84 + k) ∧ Q (x + 16) k = N (90 + k) ∧ Q (x + 17) k = N (96 + k))
def CPl (Q : Nat → Int → Int) (N : Int → Int) : Prop := (Q 67 6 = N 0 ∧ Q 67 12 = N 1 ∧ Q 80 4 = N 2 ∧ Q 67 16 = N 3 ∧ Q 67 17 = N 4 ∧ Q 67 18 = N 5 ∧ Q 67 19 = N 6 ∧ Q 67 14 = N 7) ∧ (∀ p, 0 ≤ p → p < N 0 → Q 69 p = N (8 + p) ∧ Q 70 p = N (16 + p) ∧ Q 71 p = N (24 + p) ∧ Q 72 p = N (32 + p) ∧ Q 73 p = N (40 + p)) ∧ (∀ g, 0 ≤ g → g < N 1 → Q 75 g = N (56 + g) ∧ Q 76 g = N (60 + g) ∧ Q 77 g = N (64 + g) ∧ Q 78 g = N (68 + g)) ∧ (∀ k, 0 ≤ k → k < N 7 → Q 79 (2 * k) = N (72 + k) ∧ Q 79 (2 * k + 1) = N (78 + k)) ∧ (∀ k, 0 ≤ k → k < N 2 → Q 82 k = N (84 + k) ∧ Q 83 k = N (90 + k) ∧ Q 84 k = N (96 + k))
theorem CPl_of {Q : Nat → Int → Int} {N : Int → Int} (h : CP 67 Q N) : CPl Q N := h
def CL (l : Nat) (Q : Nat → Int → Int) (N : Int → Int) : Prop := (Q l 1 = N 102 ∧ Q l 2 = N 104 ∧ Q l 3 = N 103) ∧ (∀ p, 0 ≤ p → p < N 0 → Q (l + 1) p = N (105 + p) ∧ Q (l + 2) p = N (113 + p)) ∧ (∀ g, 0 ≤ g → g < N 1 → Q (l + 3) g = N (125 + g) ∧ Q (l + 4) g = N (129 + g) ∧ Q (l + 5) g = N (121 + g) ∧ Q (l + 6) g = N (133 + g) ∧ Q (l + 7) g = N (137 + g))
theorem C_isUp {S : Nat → Nat × Nat} {Q : Nat → Int → Int} {w : Nat → Nat → Int64} {rf : Nat → Nat → Option Nat} {N : Int → Int} {x : Nat} {p h : Int} (hS : SCok S) (hr : RCok rf) (hx : isPar x) (wf : WFP N) (cp : CP x Q N) (hp : 0 ≤ p ∧ p < N 0) (hh : 0 ≤ h ∧ h < 2147483648) : fX4_isUp S (mk Q w rf) x (I p) (I h) = some (b2 (upA (N (8 + p)) (N (16 + p)) h)) := by
  obtain ⟨wn0, wn1, wn2, wn3, wn4, wn5, wn6, wn7, wfr, wto, wff, wwa, wco, wwd, wgl, wgr, wnk, wda, wdr, wgo, wg1, wg2, wwx⟩ := wf
  obtain ⟨⟨c0, c1, c2, c3, c4, c5, c6, c7⟩, cpp, cpg, cpd, cpk⟩ := cp
  have h1 := wfr p (by omega) (by omega)
  have h2 := wto p (by omega) (by omega)
  obtain ⟨e1, e2, -⟩ := cpp p hp.1 hp.2
  unfold upA
  simp (disch := first | assumption | omega) only [fX4_isUp, fX4_isUp_b57, fX4_isUp_b62, fX4_isUp_b87, fX4_isUp_b88, I_lit, orb_I, I_add, I_sub, I_mul, I_neg, nm_eq, bd0_s, bd2_s, un2_eq, un3_eq, un4_eq, un5_eq, un6_eq, cs2_l, cs2_r, mk_1, mk_2, wI_mk, wL_mk, wR_mk, setR_same, setR_setR, rZ_0, rZ_1, rZ_b2, it_b2, it_nb2, it_b21, it_nb21, I_lt, I_le, I_eq, I_div, castI, if_true, if_false, Classical.not_not, gP0_1, gP0_2, ldP2, ldP3, e1, e2]
  (repeat' split) <;> (first | exact sb_t (by omega) | exact sb_f (by omega))
noncomputable def dampA (N : Int → Int) (h : Int) : Prop := ∃ k, 0 ≤ k ∧ k < N 7 ∧ N (72 + k) ≤ h ∧ h ≤ N (78 + k)
theorem M_isDamp {S : Nat → Nat × Nat} {R : Nat → Int → Int} {w : Nat → Nat → Int64} {rf : Nat → Nat → Option Nat} {h : Int} (hS : SMok S) (hr : RMok rf) (wf : WFP (R 66)) (hh : -1 ≤ h ∧ h ≤ 600) : fX13_isDamp S (mk R w rf) 64 (I h) = some (b2 (dampA (R 66) h)) := by
  obtain ⟨wn0, wn1, wn2, wn3, wn4, wn5, wn6, wn7, wfr, wto, wff, wwa, wco, wwd, wgl, wgr, wnk, wda, wdr, wgo, wg1, wg2, wwx⟩ := wf
  obtain ⟨r, h1, h2⟩ := loop_inv (f := fX13_isDamp_L2 S (mk R w rf) 64 (I h)) (m := 1000) (s := (0 : Int32)) (fun k s => s = I k ∧ (k : Int) ≤ R 66 7 ∧ ∀ j : Int, 0 ≤ j → j < k → ¬ (R 66 (72 + j) ≤ h ∧ h ≤ R 66 (78 + j))) (fun r => (cs2 (fun (_ : Unit) => some (1 : Int32)) (fun (_ : Unit) => some (0 : Int32))) r = some (b2 (dampA (R 66) h))) (R 66 7).toNat (by omega) ⟨rfl, by omega, fun j h1 h2 => by omega⟩ (by
      intro k t hk ⟨ht, hk1, hj⟩
      subst ht
      have h3 := wda k (by omega) (by omega)
      have h4 := wdr k (by omega) (by omega)
      simp (disch := first | assumption | omega) only [fX13_isDamp_L2, I_lit, orb_I, I_add, I_sub, I_mul, I_neg, nm_eq, bd0_s, bd2_s, un2_eq, un3_eq, un4_eq, un5_eq, un6_eq, cs2_l, cs2_r, mk_1, mk_2, wI_mk, wL_mk, wR_mk, setR_same, setR_setR, rZ_0, rZ_1, rZ_b2, it_b2, it_nb2, it_b21, it_nb21, I_lt, I_le, I_eq, I_div, castI, if_true, if_false, Classical.not_not, gM14, ldM66, M_isIn]
      have h5 : ¬ (R 66 7 ≤ (k : Int)) := by omega
      by_cases h6 : R 66 (72 + k) ≤ h ∧ h ≤ R 66 (78 + k)
      · right
        refine ⟨.inl (), ?_, ?_⟩
        · simp only [h5, h6, if_false, if_true, not_true, and_self]
        · exact sb_t ⟨k, by omega, by omega, h6.1, h6.2⟩
      · left
        refine ⟨I (k + 1), ?_, rfl, by omega, ?_⟩
        · simp only [h5, h6, if_false, if_true, not_false_eq_true]
        · intro j hj1 hj2
          by_cases h7 : j = k
          · rw [h7]; exact h6
          · exact hj j hj1 (by omega)) (by
      intro t ⟨ht, hk1, hj⟩
      subst ht
      simp (disch := first | assumption | omega) only [fX13_isDamp_L2, I_lit, orb_I, I_add, I_sub, I_mul, I_neg, nm_eq, bd0_s, bd2_s, un2_eq, un3_eq, un4_eq, un5_eq, un6_eq, cs2_l, cs2_r, mk_1, mk_2, wI_mk, wL_mk, wR_mk, setR_same, setR_setR, rZ_0, rZ_1, rZ_b2, it_b2, it_nb2, it_b21, it_nb21, I_lt, I_le, I_eq, I_div, castI, if_true, if_false, Classical.not_not, gM14, ldM66, M_isIn]
      have h5 : (R 66 7 ≤ ((R 66 7).toNat : Int)) := by omega
      refine ⟨.inr (), ?_, ?_⟩
      · simp only [h5, if_true]
      · apply sb_f
        intro ⟨j, h1, h2, h3⟩
        exact hj j h1 (by omega) h3)
  simp only [fX13_isDamp, h1, bd0_s, h2]
