def EqF (N M : Int → Int) : Prop := ∀ j, j ≠ 3 → (j < 104 ∨ (105 ≤ j ∧ j < 125) ∨ (129 ≤ j ∧ j < 133)) → M j = N j
theorem fdA_eq {N M : Int → Int} {p h : Int} (e : EqF N M) (hp : 0 ≤ p ∧ p < 8) : fdA M p h = fdA N p h := by
  unfold fdA
  rw [e 102 (by omega) (by omega)]
  generalize (h - N 102).toNat = k
  induction k with
  | zero => exact e (105 + p) (by omega) (by omega)
  | succ k ih =>
    unfold fdK fndA
    rw [ih, e 102 (by omega) (by omega), e (32 + p) (by omega) (by omega), e (40 + p) (by omega) (by omega)]
theorem wil_eq {N M : Int → Int} {p h : Int} (e : EqF N M) (hp : 0 ≤ p ∧ p < 8) : wilA M p h ↔ wilA N p h := by
  unfold wilA awkA wokA
  rw [fdA_eq e hp, e (8 + p) (by omega) (by omega), e (16 + p) (by omega) (by omega), e 4 (by omega) (by omega), e 102 (by omega) (by omega), e 103 (by omega) (by omega)]
theorem some_eq {N M : Int → Int} {g h : Int} (wf : WFP N) (e : EqF N M) (hg : 0 ≤ g ∧ g < N 1) : someW M g h ↔ someW N g h := by
  have wn0 := wf.1
  have wn1 := wf.2.1
  obtain ⟨g1, g2, g4, g5⟩ := WFP_own wf hg
  unfold someW
  rw [e (56 + g) (by omega) (by omega), e (60 + g) (by omega) (by omega), wil_eq e (by omega), wil_eq e (by omega)]
theorem run_eq {N M : Int → Int} {g h : Int} (wf : WFP N) (e : EqF N M) (hg : 0 ≤ g ∧ g < 4) : runA M g h = runA N g h := by
  have w7 := wf.2.2.2.2.2.2.2.1
  unfold runA
  have hd : dampA M h ↔ dampA N h := by
    unfold dampA
    rw [e 7 (by omega) (by omega)]
    constructor
    · intro ⟨k, h1, h2, h3, h4⟩
      rw [e (72 + k) (by omega) (by omega)] at h3
      rw [e (78 + k) (by omega) (by omega)] at h4
      exact ⟨k, h1, h2, h3, h4⟩
    · intro ⟨k, h1, h2, h3, h4⟩
      refine ⟨k, h1, h2, ?_, ?_⟩
      · rw [e (72 + k) (by omega) (by omega)]; exact h3
      · rw [e (78 + k) (by omega) (by omega)]; exact h4
  rw [e (129 + g) (by omega) (by omega), e (121 + g) (by omega) (by omega), propext hd]
theorem rs_eq {N M : Int → Int} {g s w : Int} (wf : WFP N) (e : EqF N M) (hg : 0 ≤ g ∧ g < N 1) (k : Nat) : rsK M g s w k = rsK N g s w k := by
  have wn1 := wf.2.1
  induction k with
  | zero => rfl
  | succ k ih =>
    unfold rsK
    rw [ih, e 102 (by omega) (by omega), run_eq wf e (by omega), propext (some_eq wf e hg), e (64 + g) (by omega) (by omega)]
theorem lp_eq {N M : Int → Int} {g s w gr : Int} (wf : WFP N) (e : EqF N M) (hg : 0 ≤ g ∧ g < N 1) (k : Nat) : lpC M g s w gr k ↔ lpC N g s w gr k := by
  unfold lpC
  rw [rs_eq wf e hg, e 102 (by omega) (by omega), some_eq wf e hg]
theorem lapA_cong {N M : Int → Int} {g : Int} (h : M 104 = N 104) : lapA M g ↔ lapA N g := by
  unfold lapA
  rw [h]
theorem W8_cong {N M : Int → Int} (w8 : W8 N) (h1 : M 1 = N 1) (h104 : M 104 = N 104) (hw : ∀ g, 0 ≤ g → g < N 1 → M (133 + g) = N (133 + g)) : W8 M := by
  intro g a b c
  rw [h1] at b
  rw [lapA_cong h104] at c
  rw [hw g a b]
  exact w8 g a b c
def wLap (N : Int → Int) (g s gr u : Int) : Prop := ∃ k : Nat, N 102 + k < u ∧ lpC N g s (N (133 + g)) gr k
theorem M_stealIn {S : Nat → Nat × Nat} {R : Nat → Int → Int} {w : Nat → Nat → Int64} {rf : Nat → Nat → Option Nat} {g s h : Int} {x3 x4 x5 : Int32} (hS : SMok S) (hr : RMok rf) (wf : WFP (R 66)) (lo : LOK (R 66)) (hg : 0 ≤ g ∧ g < R 66 1) (hl : ¬ lapA (R 66) g) (hs : 0 ≤ s ∧ s ≤ R 66 (125 + g)) (hh : R 66 102 < h ∧ h ≤ 600) : ∃ M, loopN (fX13_steal_L86 S 64 (I g) (I h) x3 x4 x5) 1000 (mk (setR R 66 (updf (R 66) (125 + g) s)) w rf) = some (mk (setR R 66 M) w rf) ∧ (lapA M g ↔ wLap (R 66) g s (R 66 3) h) ∧ AgP (R 66) M ∧ AgS (R 66) M := by
  have wl := lo.1
  have hb := wl.1
  have w8 := W8_of wf lo.2
  have wn1 := wf.2.1
  have hle := wl.2.2.2.1 g hg.1 (by omega)
  have hgl := wl.2.2.2.2.2.2 g hg.1 hg.2
  generalize hN1 : updf (R 66) (125 + g) s = N1
  have eF : EqF (R 66) N1 := fun j h1 h2 => by rw [← hN1, updf_ne (by omega)]
  have wl1 : WFL N1 := by
    rw [← hN1]
    refine WFL_upd wl (by omega) (by omega) (by omega) (by omega) (by omega) ?_ (by omega) (by omega)
    intro _ _
    have e5 : 125 + g - 125 = g := by omega
    rw [e5]; omega
  have agP1 : AgP (R 66) N1 := by rw [← hN1]; exact AgP_upd (AgP_refl _) (by omega)
  have agS1 : AgS (R 66) N1 := by rw [← hN1]; exact AgS_upd (AgS_refl _) (by omega)
  have wf1 := WFP_ag wf agP1
  have e104 : N1 104 = R 66 104 := by rw [← hN1, updf_ne (by omega)]
  have w81 : W8 N1 := W8_cong w8 (agP1 1 (by omega)) e104 (fun g' h1 h2 => by rw [← hN1, updf_ne (by omega)])
  have e102 : N1 102 = R 66 102 := eF 102 (by omega) (by omega)
  have e1 : N1 1 = R 66 1 := agP1 1 (by omega)
  have e3 : N1 3 = R 66 3 := agP1 3 (by omega)
  have e125 : N1 (125 + g) = s := by rw [← hN1, updf_same rfl]
  have e133 : N1 (133 + g) = R 66 (133 + g) := by rw [← hN1, updf_ne (by omega)]
  have hl1 : ¬ lapA N1 g := fun h => hl ((lapA_cong e104).1 h)
  have sim := fun k hk => glass_sim wf1 wl1 w81 (g := g) (by omega) hl1 k hk
  rw [e125, e133, e3] at sim
  have lpe : ∀ k, lpC N1 g s (R 66 (133 + g)) (R 66 3) k ↔ lpC (R 66) g s (R 66 (133 + g)) (R 66 3) k := fun k => lp_eq wf eF hg k
  obtain ⟨τ, h3, k, rfl, hk, c1⟩ := loop_inv (f := fX13_steal_L86 S 64 (I g) (I h) x3 x4 x5) (m := 1000) (s := mk (setR R 66 N1) w rf) (fun k t => t = mk (setR R 66 (hoursN N1 k)) w rf ∧ R 66 102 + k ≤ h ∧ ∀ j : Nat, j < k → ¬ lapA (hoursN N1 j) g) (fun r => ∃ k : Nat, r = mk (setR R 66 (hoursN N1 k)) w rf ∧ R 66 102 + k ≤ h ∧ (lapA (hoursN N1 k) g ∨ (R 66 102 + k = h ∧ ¬ lapA (hoursN N1 k) g))) (h - R 66 102).toNat (by omega) ⟨rfl, by omega, fun j hj => by omega⟩ (by
      intro k t hk ⟨ht, hk1, hj⟩
      subst ht
      obtain ⟨i1, i2⟩ := OKL_hoursN wf1 wl1 w81 k (by omega)
      rw [e102] at i2
      have h5 : ¬ (h ≤ R 66 102 + (k : Int)) := by omega
      have ml := M_isLapsed (S := S) (w := w) (R := setR R 66 (hoursN N1 k)) (g := g) hS hr
      rw [setR_same] at ml
      by_cases q : lapA (hoursN N1 k) g
      · right
        rw [b2_t q] at ml
        refine ⟨_, ?_, k, rfl, by omega, Or.inl q⟩
        simp (disch := first | assumption | omega) only [fX13_steal_L86, I_lit, orb_I, I_add, I_sub, I_mul, I_neg, nm_eq, bd0_s, bd2_s, un2_eq, un3_eq, un4_eq, un5_eq, un6_eq, cs2_l, cs2_r, mk_1, mk_2, wI_mk, wL_mk, wR_mk, setR_same, setR_setR, rZ_0, rZ_1, rZ_b2, it_b2, it_nb2, it_b21, it_nb21, I_lt, I_le, I_eq, I_div, castI, if_true, if_false, Classical.not_not, gM14, ldM66, i2, h5, ml, Int.reduceEq, not_false_eq_true]
      · left
        rw [b2_f q] at ml
        have mo := M_oneHour (S := S) (R := setR R 66 (hoursN N1 k)) (w := w) hS hr (by rw [setR_same]; exact OKL_wf wf1 i1) (by rw [setR_same]; exact i1.2.1) (by rw [setR_same]; exact i1.2.2)
        rw [setR_same, setR_setR] at mo
        refine ⟨mk (setR R 66 (hoursN N1 (k + 1))) w rf, ?_, rfl, by omega, ?_⟩
        · simp (disch := first | assumption | omega) only [fX13_steal_L86, I_lit, orb_I, I_add, I_sub, I_mul, I_neg, nm_eq, bd0_s, bd2_s, un2_eq, un3_eq, un4_eq, un5_eq, un6_eq, cs2_l, cs2_r, mk_1, mk_2, wI_mk, wL_mk, wR_mk, setR_same, setR_setR, rZ_0, rZ_1, rZ_b2, it_b2, it_nb2, it_b21, it_nb21, I_lt, I_le, I_eq, I_div, castI, if_true, if_false, Classical.not_not, gM14, ldM66, i2, h5, ml, not_true, mo]
          rfl
        · intro j hj2
          by_cases e : j = k
          · rw [e]; exact q
          · exact hj j (by omega)) (by
      intro t ⟨ht, hk1, hj⟩
      subst ht
      obtain ⟨i1, i2⟩ := OKL_hoursN wf1 wl1 w81 (h - R 66 102).toNat (by omega)
      rw [e102] at i2
      have h5 : (h ≤ R 66 102 + ((h - R 66 102).toNat : Int)) := by omega
      refine ⟨_, ?_, (h - R 66 102).toNat, rfl, by omega, ?_⟩
      · simp (disch := first | assumption | omega) only [fX13_steal_L86, I_lit, orb_I, I_add, I_sub, I_mul, I_neg, nm_eq, bd0_s, bd2_s, un2_eq, un3_eq, un4_eq, un5_eq, un6_eq, cs2_l, cs2_r, mk_1, mk_2, wI_mk, wL_mk, wR_mk, setR_same, setR_setR, rZ_0, rZ_1, rZ_b2, it_b2, it_nb2, it_b21, it_nb21, I_lt, I_le, I_eq, I_div, castI, if_true, if_false, Classical.not_not, gM14, ldM66, i2, h5]
      · by_cases q : lapA (hoursN N1 (h - R 66 102).toNat) g
        · exact Or.inl q
        · exact Or.inr ⟨by omega, q⟩)
  obtain ⟨i1, i2⟩ := OKL_hoursN wf1 wl1 w81 k (by omega)
  obtain ⟨s1, s2⟩ := sim k (by omega)
  refine ⟨hoursN N1 k, h3, ⟨fun q => ?_, fun q => ?_⟩, AgP_trans agP1 i1.1, AgS_trans agS1 (AgS_hoursN wf1 wl1 w81 k (by omega))⟩
  · by_cases hn : ∀ j : Nat, j < k → ¬ lpC N1 g s (R 66 (133 + g)) (R 66 3) j
    · exact absurd q (s1 hn).1
    · have : ∃ j : Nat, j < k ∧ lpC N1 g s (R 66 (133 + g)) (R 66 3) j := by
        by_cases h6 : ∃ j : Nat, j < k ∧ lpC N1 g s (R 66 (133 + g)) (R 66 3) j
        · exact h6
        · exact absurd (fun j hj hc => h6 ⟨j, hj, hc⟩) hn
      obtain ⟨j, hj, hc⟩ := this
      exact ⟨j, by omega, (lpe j).1 hc⟩
  · obtain ⟨j, hj, hc⟩ := q
    rcases c1 with c1 | ⟨c1, c2⟩
    · exact c1
    · exact s2 ⟨j, by omega, (lpe j).2 hc⟩
theorem op_steal {S S' : Nat → Nat × Nat} (hS : SCok S) (hS' : SMok S') (a1 a2 : Int32) : OpC1 (fun σ => fX12_steal S σ 64 a1 a2) (fun σ => fX13_steal S' σ 64 a1 a2) := by
  intro t σC σM ⟨Q, w, rf, R, v, rm, q1, q2, hr, hr', inv, tx⟩; subst q1; subst q2
  obtain ⟨g, rfl, hg⟩ := exI a1
  obtain ⟨h, rfl, hh⟩ := exI a2
  have inv0 := INV_th inv
  have r66 : th0 R 66 = R 66 := th0_ne (by omega)
  obtain ⟨ta, ⟨wf, cp, nam⟩, ⟨lo, cl⟩, -⟩ := inv
  have k1 := C_isRunning (S := S) (w := w) hS hr wf cp cl hg
  have m1 := M_isGlass (S := S') (w := v) (R := th0 R) hS' hr' inv0.2.1.1 hg
  have m2 := M_isLapsed (S := S') (w := v) (R := th0 R) (g := g) hS' hr'
  rw [r66] at m1 m2
  have hb := lo.1.1
  have wn1 := wf.2.1
  have wn3 := wf.2.2.2.1
  have c102 := cl.1.1
  have fin1 : ∀ (h1 : fX12_steal S (mk Q w rf) 64 (I g) (I h) = some (I (-1), mk Q w rf)) (h2 : fX13_steal S' (mk R v rm) 64 (I g) (I h) = some (I (-1), mk (th0 R) v rm)), ∃ r σC' σM', fX12_steal S (mk Q w rf) 64 (I g) (I h) = some (r, σC') ∧ fX13_steal S' (mk R v rm) 64 (I g) (I h) = some (r, σM') ∧ SimX t σC' σM' := fun h1 h2 => ⟨_, _, _, h1, h2, Q, w, rf, th0 R, v, rm, rfl, rfl, hr, hr', inv0, tx0 tx⟩
  by_cases h1 : 0 ≤ g ∧ g < R 66 1
  · rw [b2_t h1] at m1
    by_cases h2 : lapA (R 66) g
    · rw [b2_t h2] at m2
      rw [b2_f (fun h => h.2 h2)] at k1
      apply fin1
      · simp (disch := first | assumption | omega) only [fX12_steal, fX12_steal_b26, I_lit, orb_I, I_add, I_sub, I_mul, I_neg, nm_eq, bd0_s, bd2_s, un2_eq, un3_eq, un4_eq, un5_eq, un6_eq, cs2_l, cs2_r, mk_1, mk_2, wI_mk, wL_mk, wR_mk, setR_same, setR_setR, rZ_0, rZ_1, rZ_b2, it_b2, it_nb2, it_b21, it_nb21, I_lt, I_le, I_eq, I_div, castI, if_true, if_false, Classical.not_not, k1]
      · simp only [fX13_steal, fX13_steal_b39, th0_I]
        simp (disch := first | assumption | omega) only [I_lit, orb_I, I_add, I_sub, I_mul, I_neg, nm_eq, bd0_s, bd2_s, un2_eq, un3_eq, un4_eq, un5_eq, un6_eq, cs2_l, cs2_r, mk_1, mk_2, wI_mk, wL_mk, wR_mk, setR_same, setR_setR, rZ_0, rZ_1, rZ_b2, it_b2, it_nb2, it_b21, it_nb21, I_lt, I_le, I_eq, I_div, castI, if_true, if_false, Classical.not_not, m1, m2, Int.reduceEq, not_false_eq_true]
    · rw [b2_f h2] at m2
      rw [b2_t ⟨h1, h2⟩] at k1
      by_cases h3 : h ≤ R 66 102
      · apply fin1
        · simp (disch := first | assumption | omega) only [fX12_steal, fX12_steal_b26, I_lit, orb_I, I_add, I_sub, I_mul, I_neg, nm_eq, bd0_s, bd2_s, un2_eq, un3_eq, un4_eq, un5_eq, un6_eq, cs2_l, cs2_r, mk_1, mk_2, wI_mk, wL_mk, wR_mk, setR_same, setR_setR, rZ_0, rZ_1, rZ_b2, it_b2, it_nb2, it_b21, it_nb21, I_lt, I_le, I_eq, I_div, castI, if_true, if_false, Classical.not_not, k1, Int.reduceEq, gC64_4, c102, h3]
        · simp only [fX13_steal, fX13_steal_b39, th0_I]
          simp (disch := first | assumption | omega) only [I_lit, orb_I, I_add, I_sub, I_mul, I_neg, nm_eq, bd0_s, bd2_s, un2_eq, un3_eq, un4_eq, un5_eq, un6_eq, cs2_l, cs2_r, mk_1, mk_2, wI_mk, wL_mk, wR_mk, setR_same, setR_setR, rZ_0, rZ_1, rZ_b2, it_b2, it_nb2, it_b21, it_nb21, I_lt, I_le, I_eq, I_div, castI, if_true, if_false, Classical.not_not, m1, m2, Int.reduceEq, not_true, gM14, ldM66, r66, h3]
      · by_cases h4 : h ≤ 600
        · have hle := lo.1.2.2.2.1 g h1.1 (by omega)
          obtain ⟨Q1, l1, l2, l3⟩ := C_look (S := S) (w := w) hS hr wf lo.1 cp cl h1
          have cl1 : CL 104 Q1 (R 66) := CL_q cl (fun a h1 h2 => l3 a (by omega))
          have cp1 : CP 67 Q1 (R 66) := CP_q cp (fun a h1 h2 => l3 a (by omega))
          obtain ⟨d1, -⟩ := cl1.2.2 g h1.1 h1.2
          have d3 : Q1 67 16 = R 66 3 := cp1.1.2.2.2.1
          have il := isLife104
          obtain ⟨r, e1, e2⟩ := loop_inv (f := fX12_steal_L38 S (mk Q1 w rf) 64 (I g) (I h)) (m := 1000) (s := I 0) (fun k s => s = I k ∧ k ≤ R 66 (125 + g) + 1 ∧ ∀ j : Nat, j < k → ¬ wLap (R 66) g (R 66 (125 + g) - j) (R 66 3) h) (fun r => (∃ k : Nat, r = .inl (I k) ∧ k ≤ R 66 (125 + g) ∧ wLap (R 66) g (R 66 (125 + g) - k) (R 66 3) h ∧ ∀ j : Nat, j < k → ¬ wLap (R 66) g (R 66 (125 + g) - j) (R 66 3) h) ∨ (r = .inr () ∧ ∀ j : Nat, j ≤ R 66 (125 + g) → ¬ wLap (R 66) g (R 66 (125 + g) - j) (R 66 3) h)) (R 66 (125 + g) + 1).toNat (by omega) ⟨rfl, by omega, fun j hj => by omega⟩ (by
            intro k s hk ⟨hs, hk1, hj⟩
            subst hs
            have h5 : ¬ (R 66 (125 + g) < (k : Int)) := by omega
            obtain ⟨r, f1, f2⟩ := C_lapseHour (S := S) (w := w) (s := R 66 (125 + g) - k) (gr := R 66 3) (u := h) hS hr wf lo.1 cp1 cl1 l2 h1 (by omega) wn3 (by omega)
            rcases f2 with ⟨p1, p2⟩ | ⟨i, p1, p2, p3, p4⟩
            · left
              subst p1
              refine ⟨I ((k + 1 : Nat) : Int), ?_, rfl, by omega, ?_⟩
              · simp (disch := first | assumption | omega) only [fX12_steal_L38, I_lit, orb_I, I_add, I_sub, I_mul, I_neg, nm_eq, bd0_s, bd2_s, un2_eq, un3_eq, un4_eq, un5_eq, un6_eq, cs2_l, cs2_r, mk_1, mk_2, wI_mk, wL_mk, wR_mk, setR_same, setR_setR, rZ_0, rZ_1, rZ_b2, it_b2, it_nb2, it_b21, it_nb21, I_lt, I_le, I_eq, I_div, castI, if_true, if_false, Classical.not_not, gC64_4, gL6 (l := 104), ldL3 (l := 104), d1, h5, gC64_7, gC64_1, d3, f1]
                rfl
              · intro j hj2
                by_cases e : j = k
                · rw [e]
                  intro ⟨i, hi, hc⟩
                  exact p2 i hi hc
                · exact hj j (by omega)
            · right
              have hne : ¬ (r = -1) := by omega
              refine ⟨.inl (I k), ?_, Or.inl ⟨k, rfl, by omega, ⟨i, p2, p3⟩, hj⟩⟩
              simp (disch := first | assumption | omega) only [fX12_steal_L38, I_lit, orb_I, I_add, I_sub, I_mul, I_neg, nm_eq, bd0_s, bd2_s, un2_eq, un3_eq, un4_eq, un5_eq, un6_eq, cs2_l, cs2_r, mk_1, mk_2, wI_mk, wL_mk, wR_mk, setR_same, setR_setR, rZ_0, rZ_1, rZ_b2, it_b2, it_nb2, it_b21, it_nb21, I_lt, I_le, I_eq, I_div, castI, if_true, if_false, Classical.not_not, gC64_4, gL6 (l := 104), ldL3 (l := 104), d1, h5, gC64_7, gC64_1, d3, f1, hne]) (by
            intro s ⟨hs, hk1, hj⟩
            subst hs
            have h5 : (R 66 (125 + g) < ((R 66 (125 + g) + 1).toNat : Int)) := by omega
            refine ⟨.inr (), ?_, Or.inr ⟨rfl, fun j hj2 => hj j (by omega)⟩⟩
            simp (disch := first | assumption | omega) only [fX12_steal_L38, I_lit, orb_I, I_add, I_sub, I_mul, I_neg, nm_eq, bd0_s, bd2_s, un2_eq, un3_eq, un4_eq, un5_eq, un6_eq, cs2_l, cs2_r, mk_1, mk_2, wI_mk, wL_mk, wR_mk, setR_same, setR_setR, rZ_0, rZ_1, rZ_b2, it_b2, it_nb2, it_b21, it_nb21, I_lt, I_le, I_eq, I_div, castI, if_true, if_false, Classical.not_not, gC64_4, gL6 (l := 104), ldL3 (l := 104), d1, h5])
          have ma := M_layAside (S := S') (w := v) (R := th0 R) hS' hr'
          rw [r66] at ma
          generalize hR1 : setR (th0 R) 70 (cpf (th0 R 70) (R 66) 0 102 39) = R1 at ma
          have r1 : ∀ a, a ≠ 70 → R1 a = th0 R a := fun a ha => by rw [← hR1, setR_ne ha]
          have R1_66 : R1 66 = R 66 := by rw [r1 66 (by omega), r66]
          have R1_70 : ∀ j, 0 ≤ j → j < 39 → R1 70 j = R 66 (102 + j) := by
            intro j h1 h2
            rw [← hR1, setR_same, cpf_in (k := 102 + j) (by omega) (by omega)]
          obtain ⟨r', g1, g2⟩ := loop_inv (f := fX13_steal_L61 S' 64 (I g) (I h) (I (R 66 (125 + g)))) (m := 1000) (s := (I (-1), I 0, mk R1 v rm)) (fun k s => ((s = (I (-1), I k, mk R1 v rm)) ∧ k ≤ R 66 (125 + g) + 1 ∧ ∀ j : Nat, j < k → ¬ wLap (R 66) g (R 66 (125 + g) - j) (R 66 3) h) ∨ (∃ i : Nat, i < k ∧ s = (I i, I (i + 1), mk R1 v rm) ∧ i ≤ R 66 (125 + g) ∧ wLap (R 66) g (R 66 (125 + g) - i) (R 66 3) h ∧ ∀ j : Nat, j < i → ¬ wLap (R 66) g (R 66 (125 + g) - j) (R 66 3) h)) (fun r => (∃ k : Nat, r = (I k, mk R1 v rm) ∧ k ≤ R 66 (125 + g) ∧ wLap (R 66) g (R 66 (125 + g) - k) (R 66 3) h ∧ ∀ j : Nat, j < k → ¬ wLap (R 66) g (R 66 (125 + g) - j) (R 66 3) h) ∨ (r = (I (-1), mk R1 v rm) ∧ ∀ j : Nat, j ≤ R 66 (125 + g) → ¬ wLap (R 66) g (R 66 (125 + g) - j) (R 66 3) h)) (R 66 (125 + g) + 1).toNat (by omega) (Or.inl ⟨rfl, by omega, fun j hj => by omega⟩) (by
            intro k s hk hs
            rcases hs with ⟨hs, hk1, hj⟩ | ⟨i, hi, hs, hi2, hi3, hi4⟩
            · subst hs
              left
              have h5 : ¬ (R 66 (125 + g) < (k : Int)) := by omega
              obtain ⟨M, s1, s2, s3, s4⟩ := M_stealIn (S := S') (w := v) (R := R1) (g := g) (s := R 66 (125 + g) - k) (h := h) (x3 := I (R 66 (125 + g))) (x4 := I (-1)) (x5 := I k) hS' hr' (by rw [R1_66]; exact wf) (by rw [R1_66]; exact lo) (by rw [R1_66]; exact h1) (by rw [R1_66]; exact h2) (by rw [R1_66]; omega) (by rw [R1_66]; omega)
              rw [R1_66] at s1 s2 s3 s4
              have ml := M_isLapsed (S := S') (w := v) (R := setR R1 66 M) (g := g) hS' hr'
              rw [setR_same] at ml
              have mt := M_takeBack (S := S') (w := v) (R := setR R1 66 M) hS' hr'
              rw [setR_same, setR_ne (by omega), back_eq s3 s4 R1_70, setR_setR, ← R1_66, setR_id] at mt
              by_cases q : wLap (R 66) g (R 66 (125 + g) - k) (R 66 3) h
              · rw [b2_t (s2.2 q)] at ml
                refine ⟨(I k, I ((k : Int) + 1), mk R1 v rm), ?_, Or.inr ⟨k, by omega, rfl, by omega, q, hj⟩⟩
                simp (disch := first | assumption | omega) only [fX13_steal_L61, fX13_steal_b112, fX13_steal_b124, I_lit, orb_I, I_add, I_sub, I_mul, I_neg, nm_eq, bd0_s, bd2_s, un2_eq, un3_eq, un4_eq, un5_eq, un6_eq, cs2_l, cs2_r, mk_1, mk_2, wI_mk, wL_mk, wR_mk, setR_same, setR_setR, rZ_0, rZ_1, rZ_b2, it_b2, it_nb2, it_b21, it_nb21, I_lt, I_le, I_eq, I_div, castI, if_true, if_false, Classical.not_not, h5, not_true, gM14, stM66, R1_66, s1, ml, Int.reduceEq, mt]
              · rw [b2_f (fun h => q (s2.1 h))] at ml
                refine ⟨(I (-1), I ((k + 1 : Nat) : Int), mk R1 v rm), ?_, Or.inl ⟨rfl, by omega, ?_⟩⟩
                · simp (disch := first | assumption | omega) only [fX13_steal_L61, fX13_steal_b112, fX13_steal_b124, I_lit, orb_I, I_add, I_sub, I_mul, I_neg, nm_eq, bd0_s, bd2_s, un2_eq, un3_eq, un4_eq, un5_eq, un6_eq, cs2_l, cs2_r, mk_1, mk_2, wI_mk, wL_mk, wR_mk, setR_same, setR_setR, rZ_0, rZ_1, rZ_b2, it_b2, it_nb2, it_b21, it_nb21, I_lt, I_le, I_eq, I_div, castI, if_true, if_false, Classical.not_not, h5, not_true, gM14, stM66, R1_66, s1, ml, mt]
                  rfl
                · intro j hj2
                  by_cases e : j = k
                  · rw [e]; exact q
                  · exact hj j (by omega)
            · subst hs
              right
              have hne : ¬ ((i : Int) = -1) := by omega
              refine ⟨(I i, mk R1 v rm), ?_, Or.inl ⟨i, rfl, hi2, hi3, hi4⟩⟩
              by_cases h5 : R 66 (125 + g) < (i : Int) + 1
              · simp (disch := first | assumption | omega) only [fX13_steal_L61, I_lit, orb_I, I_add, I_sub, I_mul, I_neg, nm_eq, bd0_s, bd2_s, un2_eq, un3_eq, un4_eq, un5_eq, un6_eq, cs2_l, cs2_r, mk_1, mk_2, wI_mk, wL_mk, wR_mk, setR_same, setR_setR, rZ_0, rZ_1, rZ_b2, it_b2, it_nb2, it_b21, it_nb21, I_lt, I_le, I_eq, I_div, castI, if_true, if_false, Classical.not_not, h5]
              · simp (disch := first | assumption | omega) only [fX13_steal_L61, I_lit, orb_I, I_add, I_sub, I_mul, I_neg, nm_eq, bd0_s, bd2_s, un2_eq, un3_eq, un4_eq, un5_eq, un6_eq, cs2_l, cs2_r, mk_1, mk_2, wI_mk, wL_mk, wR_mk, setR_same, setR_setR, rZ_0, rZ_1, rZ_b2, it_b2, it_nb2, it_b21, it_nb21, I_lt, I_le, I_eq, I_div, castI, if_true, if_false, Classical.not_not, h5, hne, not_false_eq_true]) (by
            intro s hs
            rcases hs with ⟨hs, hk1, hj⟩ | ⟨i, hi, hs, hi2, hi3, hi4⟩
            · subst hs
              have h5 : (R 66 (125 + g) < ((R 66 (125 + g) + 1).toNat : Int)) := by omega
              refine ⟨(I (-1), mk R1 v rm), ?_, Or.inr ⟨rfl, fun j hj2 => hj j (by omega)⟩⟩
              simp (disch := first | assumption | omega) only [fX13_steal_L61, I_lit, orb_I, I_add, I_sub, I_mul, I_neg, nm_eq, bd0_s, bd2_s, un2_eq, un3_eq, un4_eq, un5_eq, un6_eq, cs2_l, cs2_r, mk_1, mk_2, wI_mk, wL_mk, wR_mk, setR_same, setR_setR, rZ_0, rZ_1, rZ_b2, it_b2, it_nb2, it_b21, it_nb21, I_lt, I_le, I_eq, I_div, castI, if_true, if_false, Classical.not_not, h5]
            · subst hs
              have hne : ¬ ((i : Int) = -1) := by omega
              refine ⟨(I i, mk R1 v rm), ?_, Or.inl ⟨i, rfl, hi2, hi3, hi4⟩⟩
              by_cases h5 : R 66 (125 + g) < (i : Int) + 1
              · simp (disch := first | assumption | omega) only [fX13_steal_L61, I_lit, orb_I, I_add, I_sub, I_mul, I_neg, nm_eq, bd0_s, bd2_s, un2_eq, un3_eq, un4_eq, un5_eq, un6_eq, cs2_l, cs2_r, mk_1, mk_2, wI_mk, wL_mk, wR_mk, setR_same, setR_setR, rZ_0, rZ_1, rZ_b2, it_b2, it_nb2, it_b21, it_nb21, I_lt, I_le, I_eq, I_div, castI, if_true, if_false, Classical.not_not, h5]
              · simp (disch := first | assumption | omega) only [fX13_steal_L61, I_lit, orb_I, I_add, I_sub, I_mul, I_neg, nm_eq, bd0_s, bd2_s, un2_eq, un3_eq, un4_eq, un5_eq, un6_eq, cs2_l, cs2_r, mk_1, mk_2, wI_mk, wL_mk, wR_mk, setR_same, setR_setR, rZ_0, rZ_1, rZ_b2, it_b2, it_nb2, it_b21, it_nb21, I_lt, I_le, I_eq, I_div, castI, if_true, if_false, Classical.not_not, h5, hne, not_false_eq_true])
          have inv1 : INV Q1 w rf R1 v := INV_q (INV_f inv0 l3) (fun a h => rfl) rfl rfl (fun a h => r1 a (by unfold KM at h; omega)) (fun j h => by rw [r1 64 (by omega)])
          have tx1 : texR t (R1 64 32) (R1 78) := by
            rw [r1 64 (by omega), r1 78 (by omega)]; exact tx0 tx
          have cc : fX12_steal S (mk Q w rf) 64 (I g) (I h) = (cs2 (fun v6 => some (v6, mk Q1 w rf)) (fun (_ : Unit) => some (I (-1), mk Q1 w rf))) r := by
            simp (disch := first | assumption | omega) only [fX12_steal, fX12_steal_b26, I_lit, orb_I, I_add, I_sub, I_mul, I_neg, nm_eq, bd0_s, bd2_s, un2_eq, un3_eq, un4_eq, un5_eq, un6_eq, cs2_l, cs2_r, mk_1, mk_2, wI_mk, wL_mk, wR_mk, setR_same, setR_setR, rZ_0, rZ_1, rZ_b2, it_b2, it_nb2, it_b21, it_nb21, I_lt, I_le, I_eq, I_div, castI, if_true, if_false, Classical.not_not, k1, Int.reduceEq, gC64_4, c102, h3, h4, gC64_7, l1, e1]
          have mm : fX13_steal S' (mk R v rm) 64 (I g) (I h) = some r' := by
            simp only [fX13_steal, fX13_steal_b39, fX13_steal_b134, th0_I]
            simp (disch := first | assumption | omega) only [I_lit, orb_I, I_add, I_sub, I_mul, I_neg, nm_eq, bd0_s, bd2_s, un2_eq, un3_eq, un4_eq, un5_eq, un6_eq, cs2_l, cs2_r, mk_1, mk_2, wI_mk, wL_mk, wR_mk, setR_same, setR_setR, rZ_0, rZ_1, rZ_b2, it_b2, it_nb2, it_b21, it_nb21, I_lt, I_le, I_eq, I_div, castI, if_true, if_false, Classical.not_not, m1, m2, Int.reduceEq, not_true, gM14, ldM66, r66, h3, h4, ma, R1_66, g1]
            rfl
          rcases e2 with ⟨k, p1, p2, p3, p4⟩ | ⟨p1, p2⟩
          · rcases g2 with ⟨k', q1, q2, q3, q4⟩ | ⟨q1, q2⟩
            · have ek : k = k' := by
                by_cases c : k < k'
                · exact absurd p3 (q4 k c)
                · by_cases c2 : k' < k
                  · exact absurd q3 (p4 k' c2)
                  · omega
              subst ek
              rw [p1] at cc
              rw [q1] at mm
              exact ⟨I k, mk Q1 w rf, mk R1 v rm, cc, mm, Q1, w, rf, R1, v, rm, rfl, rfl, hr, hr', inv1, tx1⟩
            · exact absurd p3 (q2 k p2)
          · rcases g2 with ⟨k', q1, q2, q3, q4⟩ | ⟨q1, q2⟩
            · exact absurd q3 (p2 k' q2)
            · rw [p1] at cc
              rw [q1] at mm
              exact ⟨I (-1), mk Q1 w rf, mk R1 v rm, cc, mm, Q1, w, rf, R1, v, rm, rfl, rfl, hr, hr', inv1, tx1⟩
        · apply fin1
          · simp (disch := first | assumption | omega) only [fX12_steal, fX12_steal_b26, I_lit, orb_I, I_add, I_sub, I_mul, I_neg, nm_eq, bd0_s, bd2_s, un2_eq, un3_eq, un4_eq, un5_eq, un6_eq, cs2_l, cs2_r, mk_1, mk_2, wI_mk, wL_mk, wR_mk, setR_same, setR_setR, rZ_0, rZ_1, rZ_b2, it_b2, it_nb2, it_b21, it_nb21, I_lt, I_le, I_eq, I_div, castI, if_true, if_false, Classical.not_not, k1, Int.reduceEq, gC64_4, c102, h3, h4]
          · simp only [fX13_steal, fX13_steal_b39, th0_I]
            simp (disch := first | assumption | omega) only [I_lit, orb_I, I_add, I_sub, I_mul, I_neg, nm_eq, bd0_s, bd2_s, un2_eq, un3_eq, un4_eq, un5_eq, un6_eq, cs2_l, cs2_r, mk_1, mk_2, wI_mk, wL_mk, wR_mk, setR_same, setR_setR, rZ_0, rZ_1, rZ_b2, it_b2, it_nb2, it_b21, it_nb21, I_lt, I_le, I_eq, I_div, castI, if_true, if_false, Classical.not_not, m1, m2, Int.reduceEq, not_true, gM14, ldM66, r66, h3, h4]
  · rw [b2_f h1] at m1
    rw [b2_f (fun h => h1 h.1)] at k1
    apply fin1
    · simp (disch := first | assumption | omega) only [fX12_steal, fX12_steal_b26, I_lit, orb_I, I_add, I_sub, I_mul, I_neg, nm_eq, bd0_s, bd2_s, un2_eq, un3_eq, un4_eq, un5_eq, un6_eq, cs2_l, cs2_r, mk_1, mk_2, wI_mk, wL_mk, wR_mk, setR_same, setR_setR, rZ_0, rZ_1, rZ_b2, it_b2, it_nb2, it_b21, it_nb21, I_lt, I_le, I_eq, I_div, castI, if_true, if_false, Classical.not_not, k1]
    · simp only [fX13_steal, fX13_steal_b39, th0_I]
      simp (disch := first | assumption | omega) only [I_lit, orb_I, I_add, I_sub, I_mul, I_neg, nm_eq, bd0_s, bd2_s, un2_eq, un3_eq, un4_eq, un5_eq, un6_eq, cs2_l, cs2_r, mk_1, mk_2, wI_mk, wL_mk, wR_mk, setR_same, setR_setR, rZ_0, rZ_1, rZ_b2, it_b2, it_nb2, it_b21, it_nb21, I_lt, I_le, I_eq, I_div, castI, if_true, if_false, Classical.not_not, m1]
