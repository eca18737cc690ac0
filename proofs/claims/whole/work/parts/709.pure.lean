theorem bv_one {x : BitVec 32} : x &&& (1#32) = 1#32 ↔ x.getLsbD 0 = true := by
  constructor
  · intro h
    have := congrArg (fun y => BitVec.getLsbD y 0) h
    simpa using this
  · intro h
    apply BitVec.eq_of_getLsbD_eq
    intro i hi
    by_cases h0 : i = 0
    · subst h0; simp [h]
    · simp [h0]
theorem bv_sh {x : BitVec 32} {k : BitVec 32} {n : Nat} (hk : k.toNat = n) (hn : n < 32) : (x.sshiftRight' k).getLsbD 0 = x.getLsbD n := by
  simp only [BitVec.sshiftRight', BitVec.getLsbD_sshiftRight, hk]
  simp [hn]
theorem hasA_bit {s : Int32} {j : Int} (h : 0 ≤ j ∧ j < 8) : hasA s j ↔ s.toBitVec.getLsbD j.toNat = true := by
  have hc : j = 0 ∨ j = 1 ∨ j = 2 ∨ j = 3 ∨ j = 4 ∨ j = 5 ∨ j = 6 ∨ j = 7 := by omega
  unfold hasA
  rw [← Int32.toBitVec_inj, Int32.toBitVec_and, Int32.toBitVec_shiftRight]
  show _ &&& (1#32) = 1#32 ↔ _
  rw [bv_one]
  have e : ((I j &&& 31).toBitVec.smod 32).toNat = j.toNat := by
    rcases hc with h | h | h | h | h | h | h | h <;> subst h <;> decide
  rw [bv_sh e (by omega)]
theorem orb_bit {s : Int32} {k : Int} {j : Nat} (h : 0 ≤ k ∧ k < 8) (hj : j < 8) : (s ||| ((1 : Int32) <<< (I k &&& 31))).toBitVec.getLsbD j = (s.toBitVec.getLsbD j || decide ((j : Int) = k)) := by
  have hc : k = 0 ∨ k = 1 ∨ k = 2 ∨ k = 3 ∨ k = 4 ∨ k = 5 ∨ k = 6 ∨ k = 7 := by omega
  have hd : j = 0 ∨ j = 1 ∨ j = 2 ∨ j = 3 ∨ j = 4 ∨ j = 5 ∨ j = 6 ∨ j = 7 := by omega
  rw [Int32.toBitVec_or, BitVec.getLsbD_or]
  congr 1
  rcases hc with h | h | h | h | h | h | h | h <;> subst h <;> rcases hd with h | h | h | h | h | h | h | h <;> subst h <;> decide
theorem has_orb {s k j : Int} (hk : 0 ≤ k ∧ k < 8) (hj : 0 ≤ j ∧ j < 8) : hasA (I (orbA s k)) j ↔ hasA (I s) j ∨ j = k := by
  rw [hasA_bit hj, hasA_bit hj]
  unfold orbA
  rw [I_of, orb_bit hk (by omega)]
  simp only [Bool.or_eq_true, decide_eq_true_eq]
  have : ((j.toNat : Int) = k) ↔ j = k := by omega
  rw [this]
noncomputable def waitA (N : Int → Int) (g : Int) : Int → Int := ii (N (133 + g) + 1 < N 3) (updf N (133 + g) (N (133 + g) + 1)) (updf (updf N (133 + g) (N (133 + g) + 1)) 104 (orbA (N 104) g))
noncomputable def endA (N : Int → Int) (g : Int) : Int → Int := ii (wilA N (N (56 + g)) (N 102)) (turnA N (N (56 + g))) (ii (wilA N (N (60 + g)) (N 102)) (turnA N (N (60 + g))) (waitA N g))
noncomputable def stepG (N : Int → Int) (g : Int) : Int → Int := ii (lapA N g) N (ii (N (125 + g) = 0) (endA N g) (updf N (125 + g) (N (125 + g) - min (N (125 + g)) (runA N g (N 102)))))
noncomputable def hourG (N : Int → Int) : Nat → Int → Int
  | 0 => N
  | k + 1 => stepG (hourG N k) k
noncomputable def fondG (N : Int → Int) : Nat → Int → Int
  | 0 => N
  | k + 1 => updf (fondG N k) (105 + k) (fndA (fondG N k) k (fondG N k (105 + k)))
noncomputable def restA (N : Int → Int) : Int → Int := ii (N 102 % 24 = 23) (fondG (updf N 103 0) (N 0).toNat) (updf N 103 0)
noncomputable def hourA (N : Int → Int) : Int → Int := updf (restA (hourG N (N 1).toNat)) 102 (N 102 + 1)
theorem WFP_own {N : Int → Int} {g : Int} (wf : WFP N) (hg : 0 ≤ g ∧ g < N 1) : (0 ≤ N (56 + g) ∧ N (56 + g) < N 0) ∧ (0 ≤ N (60 + g) ∧ N (60 + g) < N 0) ∧ N (48 + N (56 + g)) = g ∧ N (48 + N (60 + g)) = g := by
  obtain ⟨wn0, wn1, wn2, wn3, wn4, wn5, wn6, wn7, wfr, wto, wff, wwa, wco, wwd, wgl, wgr, wnk, wda, wdr, wgo, wg1, wg2, wwx⟩ := wf
  obtain ⟨g1, g2, g3, g4, g5, -, -⟩ := wgl g hg.1 hg.2
  exact ⟨g1, g2, g4, g5⟩
theorem AgP_step {N : Int → Int} {g : Int} (wf : WFP N) (hg : 0 ≤ g ∧ g < N 1) : AgP N (stepG N g) := by
  obtain ⟨g1, g2, g4, g5⟩ := WFP_own wf hg
  unfold stepG endA waitA ii
  (repeat' split)
  · exact AgP_refl N
  · exact AgP_turn (by omega) g1.1
  · exact AgP_turn (by omega) g2.1
  · exact AgP_upd (AgP_refl N) (by omega)
  · exact AgP_upd (AgP_upd (AgP_refl N) (by omega)) (by omega)
  · exact AgP_upd (AgP_refl N) (by omega)
theorem hour_step {N : Int → Int} {g : Int} (wf : WFP N) (hg : 0 ≤ g ∧ g < N 1) : stepG N g 102 = N 102 := by
  obtain ⟨g1, g2, g4, g5⟩ := WFP_own wf hg
  unfold stepG endA waitA turnA ii
  (repeat' split) <;> simp (disch := omega) only [updf_ne]
theorem WFL_step {N : Int → Int} {g : Int} (wf : WFP N) (wl : WFL N) (hg : 0 ≤ g ∧ g < N 1) (hw : ¬ lapA N g → N (133 + g) ≤ 8) : WFL (stepG N g) := by
  obtain ⟨g1, g2, g4, g5⟩ := WFP_own wf hg
  have wf' := wf
  obtain ⟨wn0, wn1, wn2, wn3, wn4, wn5, wn6, wn7, wfr, wto, wff, wwa, wco, wwd, wgl, wgr, wnk, wda, wdr, wgo, wg1, wg2, wwx⟩ := wf
  have h1 := wl.2.2.2.1 g hg.1 (by omega)
  have h2 := runA_r (h := N 102) wl (⟨hg.1, by omega⟩ : 0 ≤ g ∧ g < 4)
  have h3 := wl.2.2.2.2.2.1 g hg.1 (by omega)
  have h4 := wl.2.2.2.2.2.2 g hg.1 hg.2
  have hu : ¬ lapA N g → WFL (updf N (133 + g) (N (133 + g) + 1)) := by
    intro hl
    have := hw hl
    exact WFL_upd wl (by omega) (by omega) (by omega) (by omega) (by omega) (by omega) (by omega) (by omega)
  unfold stepG endA waitA ii
  (repeat' split)
  · exact wl
  · exact WFL_turn wf' wl g1 (by omega)
  · exact WFL_turn wf' wl g2 (by omega)
  · rename_i hl _ _ _ _
    exact hu hl
  · rename_i hl _ _ _ _
    refine WFL_upd (hu hl) ?_ (by omega) (by omega) (by omega) (by omega) (by omega) (by omega) (by omega)
    rw [updf_ne (by omega)]; omega
  · refine WFL_upd wl (by omega) (by omega) (by omega) (by omega) (by omega) ?_ (by omega) (by omega)
    intro _ _
    have h5 : 125 + g - 125 = g := by omega
    rw [h5]; omega
theorem M_ended {S : Nat → Nat × Nat} {R : Nat → Int → Int} {w : Nat → Nat → Int64} {rf : Nat → Nat → Option Nat} {g : Int} (hS : SMok S) (hr : RMok rf) (wf : WFP (R 66)) (wl : WFL (R 66)) (hg : 0 ≤ g ∧ g < R 66 1) : fX13_ended S (mk R w rf) 64 (I g) = some (mk (setR R 66 (endA (R 66) g)) w rf) := by
  obtain ⟨g1, g2, g4, g5⟩ := WFP_own wf hg
  have wf' := wf
  obtain ⟨wn0, wn1, wn2, wn3, wn4, wn5, wn6, wn7, wfr, wto, wff, wwa, wco, wwd, wgl, wgr, wnk, wda, wdr, wgo, wg1, wg2, wwx⟩ := wf
  have h3 := wl.2.2.2.2.2.1 g hg.1 (by omega)
  have h4 := wl.1
  have m1 := M_isWilling (w := w) hS hr wf' wl (⟨g1.1, by omega⟩ : 0 ≤ R 66 (56 + g) ∧ R 66 (56 + g) < 8) (⟨Int.le_refl _, h4.2⟩ : R 66 102 ≤ R 66 102 ∧ R 66 102 ≤ 600)
  have m2 := M_isWilling (w := w) hS hr wf' wl (⟨g2.1, by omega⟩ : 0 ≤ R 66 (60 + g) ∧ R 66 (60 + g) < 8) (⟨Int.le_refl _, h4.2⟩ : R 66 102 ≤ R 66 102 ∧ R 66 102 ≤ 600)
  have t1 := M_doTurn (w := w) hS hr wf' g1 (by omega)
  have t2 := M_doTurn (w := w) hS hr wf' g2 (by omega)
  have n1 : ¬ (R 66 (56 + g) = -1) := by omega
  have n2 : ¬ (R 66 (60 + g) = -1) := by omega
  simp (disch := first | assumption | omega) only [fX13_ended, fX13_ended_b65, fX13_ended_b123, I_lit, orb_I, I_add, I_sub, I_mul, I_neg, nm_eq, bd0_s, bd2_s, un2_eq, un3_eq, un4_eq, un5_eq, un6_eq, cs2_l, cs2_r, mk_1, mk_2, wI_mk, wL_mk, wR_mk, setR_same, setR_setR, rZ_0, rZ_1, rZ_b2, it_b2, it_nb2, it_b21, it_nb21, I_lt, I_le, I_eq, I_div, castI, if_true, if_false, Classical.not_not, gM14, ldM66, stM66, m1, m2, t1, t2, n1, n2, updf_ne, updf_same]
  unfold endA waitA ii
  (repeat' split) <;> rfl
theorem M_step {S : Nat → Nat × Nat} {R : Nat → Int → Int} {w : Nat → Nat → Int64} {rf : Nat → Nat → Option Nat} {g : Int} (hS : SMok S) (hr : RMok rf) (wf : WFP (R 66)) (wl : WFL (R 66)) (hg : 0 ≤ g ∧ g < R 66 1) : fX13_oneHour_L2 S 64 (I g, mk R w rf) = some (.inl (I (g + 1), mk (setR R 66 (stepG (R 66) g)) w rf)) := by
  have wf' := wf
  obtain ⟨wn0, wn1, wn2, wn3, wn4, wn5, wn6, wn7, wfr, wto, wff, wwa, wco, wwd, wgl, wgr, wnk, wda, wdr, wgo, wg1, wg2, wwx⟩ := wf
  have h1 := wl.2.2.2.1 g hg.1 (by omega)
  have h2 := runA_r (h := R 66 102) wl (⟨hg.1, by omega⟩ : 0 ≤ g ∧ g < 4)
  have h4 := wl.1
  have h5 : ¬ (R 66 1 ≤ g) := by omega
  simp (disch := first | assumption | omega) only [fX13_oneHour_L2, fX13_oneHour_b79, I_lit, orb_I, I_add, I_sub, I_mul, I_neg, nm_eq, bd0_s, bd2_s, un2_eq, un3_eq, un4_eq, un5_eq, un6_eq, cs2_l, cs2_r, mk_1, mk_2, wI_mk, wL_mk, wR_mk, setR_same, setR_setR, rZ_0, rZ_1, rZ_b2, it_b2, it_nb2, it_b21, it_nb21, I_lt, I_le, I_eq, I_div, castI, if_true, if_false, Classical.not_not, gM14, ldM66, stM66, h5, M_isLapsed hS hr, M_runs hS hr wf' wl (⟨hg.1, by omega⟩ : 0 ≤ g ∧ g < 4) (⟨by omega, h4.2⟩ : -1 ≤ R 66 102 ∧ R 66 102 ≤ 600), M_least, M_ended hS hr wf' wl hg]
  unfold stepG ii
  by_cases q1 : lapA (R 66) g
  · simp only [q1, if_true]
    rw [setR_id]
  · simp only [q1, if_false]
    by_cases q2 : R 66 (125 + g) = 0
    · simp only [q2, not_true, if_true, if_false]
    · simp only [q2, not_false_eq_true, if_true, if_false]
