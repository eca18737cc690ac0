theorem C_endNow {S : Nat → Nat × Nat} {Q : Nat → Int → Int} {w : Nat → Nat → Int64} {rf : Nat → Nat → Option Nat} {N : Int → Int} {g : Int} (hS : SCok S) (hr : RCok rf) (wf : WFP N) (wl : WFL N) (cl : CL 104 Q N) (fo : FO N g Q) (hg : 0 ≤ g ∧ g < N 1) : ∃ e, fX1_endNow S (mk Q w rf) 186 = some (I e) ∧ EndAt N g (N 102) (N (125 + g)) e := by
  have hb := wl.1
  have wn1 := wf.2.1
  have hl := wl.2.2.2.1 g hg.1 (by omega)
  obtain ⟨e, h1, h2⟩ := C_endFrom (S := S) (w := w) (h0 := N 102) (s := N (125 + g)) hS hr wl fo (by omega) (by omega) hl
  refine ⟨e, ?_, h2⟩
  have c102 := cl.1.1
  obtain ⟨d1, -⟩ := cl.2.2 g hg.1 hg.2
  have fo1 := fo.1
  have il := isLife104
  simp (disch := first | assumption | omega) only [fX1_endNow, I_lit, orb_I, I_add, I_sub, I_mul, I_neg, nm_eq, bd0_s, bd2_s, un2_eq, un3_eq, un4_eq, un5_eq, un6_eq, cs2_l, cs2_r, mk_1, mk_2, wI_mk, wL_mk, wR_mk, setR_same, setR_setR, rZ_0, rZ_1, rZ_b2, it_b2, it_nb2, it_b21, it_nb21, I_lt, I_le, I_eq, I_div, castI, if_true, if_false, Classical.not_not, gC186_1, gL6 (l := 104), fo1, ldL3 (l := 104), d1, c102, h1]
theorem INV_f {Q Q' : Nat → Int → Int} {w : Nat → Nat → Int64} {rf : Nat → Nat → Option Nat} {R : Nat → Int → Int} {v : Nat → Nat → Int64} (inv : INV Q w rf R v) (h : ∀ a, a < 186 ∨ 188 < a → Q' a = Q a) : INV Q' w rf R v :=
  INV_q inv (fun a ha => h a (by unfold KQ at ha; omega)) (by rw [h 65 (by omega)]) (by rw [h 189 (by omega)]) (fun a ha => rfl) (fun j hj => rfl)
theorem M_endOf {S : Nat → Nat × Nat} {R : Nat → Int → Int} {w : Nat → Nat → Int64} {rf : Nat → Nat → Option Nat} {g : Int} (hS : SMok S) (hr : RMok rf) (wf : WFP (R 66)) (wl : WFL (R 66)) (hg : -2147483648 ≤ g ∧ g < 2147483648) : (¬ ((0 ≤ g ∧ g < R 66 1) ∧ ¬ lapA (R 66) g) → fX13_endOf S (mk R w rf) 64 (I g) = some (I (-1))) ∧ (((0 ≤ g ∧ g < R 66 1) ∧ ¬ lapA (R 66) g) → ∃ e, fX13_endOf S (mk R w rf) 64 (I g) = some (I (ii (e = 600) (-1) e)) ∧ EndAt (R 66) g (R 66 102) (R 66 (125 + g)) e) := by
  have wn1 := wf.2.1
  have m1 := M_isGlass (S := S) (w := w) hS hr wf hg
  have m2 := M_isLapsed (S := S) (R := R) (w := w) (g := g) hS hr
  refine ⟨fun h => ?_, fun h => ?_⟩
  · by_cases h1 : 0 ≤ g ∧ g < R 66 1
    · have h2 : lapA (R 66) g := by
        by_cases q : lapA (R 66) g
        · exact q
        · exact absurd ⟨h1, q⟩ h
      rw [b2_t h1] at m1
      rw [b2_t h2] at m2
      simp (disch := first | assumption | omega) only [fX13_endOf, fX13_endOf_b33, fX13_endOf_b34, I_lit, orb_I, I_add, I_sub, I_mul, I_neg, nm_eq, bd0_s, bd2_s, un2_eq, un3_eq, un4_eq, un5_eq, un6_eq, cs2_l, cs2_r, mk_1, mk_2, wI_mk, wL_mk, wR_mk, setR_same, setR_setR, rZ_0, rZ_1, rZ_b2, it_b2, it_nb2, it_b21, it_nb21, I_lt, I_le, I_eq, I_div, castI, if_true, if_false, Classical.not_not, m1, m2, Int.reduceEq, not_false_eq_true]
    · rw [b2_f h1] at m1
      simp (disch := first | assumption | omega) only [fX13_endOf, fX13_endOf_b33, fX13_endOf_b34, I_lit, orb_I, I_add, I_sub, I_mul, I_neg, nm_eq, bd0_s, bd2_s, un2_eq, un3_eq, un4_eq, un5_eq, un6_eq, cs2_l, cs2_r, mk_1, mk_2, wI_mk, wL_mk, wR_mk, setR_same, setR_setR, rZ_0, rZ_1, rZ_b2, it_b2, it_nb2, it_b21, it_nb21, I_lt, I_le, I_eq, I_div, castI, if_true, if_false, Classical.not_not, m1]
  · have hl := wl.2.2.2.1 g h.1.1 (by omega)
    obtain ⟨e, h1, h2⟩ := M_endsBy (S := S) (w := w) (g := g) (s := R 66 (125 + g)) hS hr wf wl (by omega) hl
    refine ⟨e, ?_, h2⟩
    rw [b2_t h.1] at m1
    rw [b2_f h.2] at m2
    have hg' := h.1
    simp (disch := first | assumption | omega) only [fX13_endOf, fX13_endOf_b33, fX13_endOf_b34, I_lit, orb_I, I_add, I_sub, I_mul, I_neg, nm_eq, bd0_s, bd2_s, un2_eq, un3_eq, un4_eq, un5_eq, un6_eq, cs2_l, cs2_r, mk_1, mk_2, wI_mk, wL_mk, wR_mk, setR_same, setR_setR, rZ_0, rZ_1, rZ_b2, it_b2, it_nb2, it_b21, it_nb21, I_lt, I_le, I_eq, I_div, castI, if_true, if_false, Classical.not_not, m1, m2, Int.reduceEq, not_true, gM14, ldM66, h1]
theorem op_ends {S S' : Nat → Nat × Nat} (hS : SCok S) (hS' : SMok S') (a1 : Int32) : OpC1 (fun σ => fX12_ends S σ 64 a1) (fun σ => fX13_ends S' σ 64 a1) := by
  intro t σC σM ⟨Q, w, rf, R, v, rm, q1, q2, hr, hr', inv, tx⟩; subst q1; subst q2
  obtain ⟨g, rfl, hg⟩ := exI a1
  have inv0 := INV_th inv
  have r66 : th0 R 66 = R 66 := th0_ne (by omega)
  obtain ⟨ta, ⟨wf, cp, nam⟩, ⟨lo, cl⟩, -⟩ := inv
  have k1 := C_isRunning (S := S) (w := w) hS hr wf cp cl hg
  obtain ⟨m1, m2⟩ := M_endOf (S := S') (w := v) (R := th0 R) (g := g) hS' hr' inv0.2.1.1 inv0.2.2.1.1.1 hg
  rw [r66] at m1 m2
  by_cases h : (0 ≤ g ∧ g < R 66 1) ∧ ¬ lapA (R 66) g
  · rw [b2_t h] at k1
    obtain ⟨e, m3, m4⟩ := m2 h
    obtain ⟨Q1, l1, l2, l3⟩ := C_look (S := S) (w := w) hS hr wf lo.1 cp cl h.1
    have cl1 : CL 104 Q1 (R 66) := CL_q cl (fun a h1 h2 => l3 a (by omega))
    obtain ⟨e', l4, l5⟩ := C_endNow (S := S) (w := w) hS hr wf lo.1 cl1 l2 h.1
    have ee := EndAt_u m4 l5
    subst ee
    have er := m4.1
    have hb := lo.1.1
    refine ⟨I (ii (e = 600) (-1) e), mk Q1 w rf, mk (th0 R) v rm, ?_, ?_, Q1, w, rf, th0 R, v, rm, rfl, rfl, hr, hr', INV_f inv0 l3, tx0 tx⟩
    · simp (disch := first | assumption | omega) only [fX12_ends, fX12_ends_b17, fX12_endOf, fX12_endOf_b28, I_lit, orb_I, I_add, I_sub, I_mul, I_neg, nm_eq, bd0_s, bd2_s, un2_eq, un3_eq, un4_eq, un5_eq, un6_eq, cs2_l, cs2_r, mk_1, mk_2, wI_mk, wL_mk, wR_mk, setR_same, setR_setR, rZ_0, rZ_1, rZ_b2, it_b2, it_nb2, it_b21, it_nb21, I_lt, I_le, I_eq, I_div, castI, if_true, if_false, Classical.not_not, k1, Int.reduceEq, gC64_7, l1, l4]
      unfold ii
      split <;> split <;> first | rfl | omega
    · simp only [fX13_ends, th0_I, m3]
      rfl
  · rw [b2_f h] at k1
    refine ⟨I (-1), mk Q w rf, mk (th0 R) v rm, ?_, ?_, Q, w, rf, th0 R, v, rm, rfl, rfl, hr, hr', inv0, tx0 tx⟩
    · simp (disch := first | assumption | omega) only [fX12_ends, fX12_ends_b17, I_lit, orb_I, I_add, I_sub, I_mul, I_neg, nm_eq, bd0_s, bd2_s, un2_eq, un3_eq, un4_eq, un5_eq, un6_eq, cs2_l, cs2_r, mk_1, mk_2, wI_mk, wL_mk, wR_mk, setR_same, setR_setR, rZ_0, rZ_1, rZ_b2, it_b2, it_nb2, it_b21, it_nb21, I_lt, I_le, I_eq, I_div, castI, if_true, if_false, Classical.not_not, k1]
    · simp only [fX13_ends, th0_I, m1 h]
      rfl
def LastW (N : Int → Int) (g e t : Int) : Prop := (e ≤ t ∧ t < e + N 3 ∧ t < 600) ∧ someW N g t ∧ ∀ j, t < j → j < e + N 3 → j < 600 → ¬ someW N g j
def NoneW (N : Int → Int) (g e : Int) : Prop := ∀ j, e ≤ j → j < e + N 3 → j < 600 → ¬ someW N g j
noncomputable def lastP (N : Int → Int) (g t : Int) : Int := ii (wilA N (N (60 + g)) t) (N (60 + g)) (N (56 + g))
theorem C_lastTurner {S : Nat → Nat × Nat} {Q : Nat → Int → Int} {w : Nat → Nat → Int64} {rf : Nat → Nat → Option Nat} {N : Int → Int} {g : Int} (hS : SCok S) (hr : RCok rf) (wf : WFP N) (wl : WFL N) (cp : CP 67 Q N) (cl : CL 104 Q N) (fo : FO N g Q) (hg : 0 ≤ g ∧ g < N 1) : ∃ e Q', EndAt N g (N 102) (N (125 + g)) e ∧ fX1_findLastTurner S (mk Q w rf) 186 = some (mk Q' w rf) ∧ (∀ a, a ≠ 186 → Q' a = Q a) ∧ ((NoneW N g e ∧ Q' 186 7 = -1 ∧ Q' 186 8 = -1) ∨ (∃ t, LastW N g e t ∧ Q' 186 8 = t ∧ Q' 186 7 = lastP N g t)) := by
  have hb := wl.1
  have wn1 := wf.2.1
  have wn3 := wf.2.2.2.1
  obtain ⟨g1, g2, g4, g5⟩ := WFP_own wf hg
  generalize hQ0 : setR (setR Q 186 (updf (Q 186) 7 (-1))) 186 (updf (setR Q 186 (updf (Q 186) 7 (-1)) 186) 8 (-1)) = Q0
  have q0 : ∀ a, a ≠ 186 → Q0 a = Q a := fun a ha => by rw [← hQ0, setR_ne ha, setR_ne ha]
  have q04 : Q0 186 4 = g := by rw [← hQ0, setR_same, setR_same, updf_ne (by omega), updf_ne (by omega)]; exact fo.1
  have q07 : Q0 186 7 = -1 := by rw [← hQ0, setR_same, setR_same, updf_ne (by omega), updf_same rfl]
  have q08 : Q0 186 8 = -1 := by rw [← hQ0, setR_same, setR_same, updf_same rfl]
  have fo0 : FO N g Q0 := ⟨q04, by rw [q0 187 (by omega), q0 188 (by omega)]; exact fo.2⟩
  have cl0 : CL 104 Q0 N := CL_q cl (fun a h1 h2 => q0 a (by omega))
  have cp0 : CP 67 Q0 N := CP_q cp (fun a h1 h2 => q0 a (by omega))
  obtain ⟨e, h1, h2⟩ := C_endNow (S := S) (w := w) hS hr wf wl cl0 fo0 hg
  have er := h2.1
  obtain ⟨τ, h3, Q', rfl, b1, b2, b3⟩ := loop_inv (f := fX1_findLastTurner_L17 S 186 (I e)) (m := 1000) (s := (I e, mk Q0 w rf)) (fun k s => ∃ Q', s = (I (e + k), mk Q' w rf) ∧ (∀ a, a ≠ 186 → Q' a = Q a) ∧ Q' 186 4 = g ∧ e + k ≤ min 600 (e + N 3) ∧ (((∀ j, e ≤ j → j < e + k → ¬ someW N g j) ∧ Q' 186 7 = -1 ∧ Q' 186 8 = -1) ∨ (∃ t, (e ≤ t ∧ t < e + k) ∧ someW N g t ∧ (∀ j, t < j → j < e + k → ¬ someW N g j) ∧ Q' 186 8 = t ∧ Q' 186 7 = lastP N g t))) (fun r => ∃ Q', r = mk Q' w rf ∧ (∀ a, a ≠ 186 → Q' a = Q a) ∧ Q' 186 4 = g ∧ (((∀ j, e ≤ j → j < min 600 (e + N 3) → ¬ someW N g j) ∧ Q' 186 7 = -1 ∧ Q' 186 8 = -1) ∨ (∃ t, (e ≤ t ∧ t < min 600 (e + N 3)) ∧ someW N g t ∧ (∀ j, t < j → j < min 600 (e + N 3) → ¬ someW N g j) ∧ Q' 186 8 = t ∧ Q' 186 7 = lastP N g t))) (min 600 (e + N 3) - e).toNat (by omega) ⟨Q0, by simp, q0, q04, by omega, Or.inl ⟨fun j h1 h2 => by omega, q07, q08⟩⟩ (by
      intro k s hk ⟨Q', hs, b1, b2, b3, b4⟩
      subst hs
      left
      have cp1 : CP 67 Q' N := CP_q cp (fun a h1 h2 => b1 a (by omega))
      have d3 : Q' 67 16 = N 3 := cp1.1.2.2.2.1
      have h5 : ¬ (e + N 3 ≤ e + (k : Int)) := by omega
      have h6 : ¬ (600 ≤ e + (k : Int)) := by omega
      have fo1 : FO N g Q' := ⟨b2, by rw [b1 187 (by omega), b1 188 (by omega)]; exact fo.2⟩
      have sm := C_some (S := S) (w := w) (h := e + k) hS hr wl fo1 (by omega)
      by_cases q : someW N g (e + k)
      · rw [b2_t q] at sm
        generalize hQ2 : setR Q' 186 (updf (Q' 186) 8 (e + k)) = Q2
        have q2 : ∀ a, a ≠ 186 → Q2 a = Q a := fun a ha => by rw [← hQ2, setR_ne ha, b1 a ha]
        have q24 : Q2 186 4 = g := by rw [← hQ2, setR_same, updf_ne (by omega)]; exact b2
        have fo2 : FO N g Q2 := ⟨q24, by rw [q2 187 (by omega), q2 188 (by omega)]; exact fo.2⟩
        have hb2 := (C_hasB (S := S) (w := w) (h := e + k) hS hr wl fo2 (by omega)).2.1
        have cp2 : CP 67 Q2 N := CP_q cp (fun a h1 h2 => q2 a (by omega))
        obtain ⟨⟨-, -, -, -, -, -, -, -⟩, -, cpg, -, -⟩ := CPl_of cp2
        obtain ⟨f1, f2, -, -⟩ := cpg g hg.1 hg.2
        have ip67 := isPar67
        generalize hQ3 : setR Q2 186 (updf (Q2 186) 7 (lastP N g (e + k))) = Q3
        refine ⟨(I (e + ((k + 1 : Nat) : Int)), mk Q3 w rf), ?_, Q3, rfl, ?_, ?_, by omega, Or.inr ⟨e + k, by omega, q, fun j h1 h2 => by omega, ?_, ?_⟩⟩
        · have ek : e + (k : Int) + 1 = e + ((k + 1 : Nat) : Int) := by omega
          simp (disch := first | assumption | omega) only [fX1_findLastTurner_L17, fX1_findLastTurner_b90, fX1_findLastTurner_b87, I_lit, orb_I, I_add, I_sub, I_mul, I_neg, nm_eq, bd0_s, bd2_s, un2_eq, un3_eq, un4_eq, un5_eq, un6_eq, cs2_l, cs2_r, mk_1, mk_2, wI_mk, wL_mk, wR_mk, setR_same, setR_setR, rZ_0, rZ_1, rZ_b2, it_b2, it_nb2, it_b21, it_nb21, I_lt, I_le, I_eq, I_div, castI, if_true, if_false, Classical.not_not, gC186_0, d3, h5, h6, sm, Int.reduceEq, hQ2, hb2, gP0_8, gP0_9, q24, ldP8, ldP9, f1, f2]
          rw [ek]
          by_cases q3 : wilA N (N (60 + g)) (e + k)
          · rw [if_pos q3, ← hQ3]
            unfold lastP
            rw [ii_t q3]
          · rw [if_neg q3, ← hQ3]
            unfold lastP
            rw [ii_f q3]
        · intro a ha
          rw [← hQ3, setR_ne ha, q2 a ha]
        · rw [← hQ3, setR_same, updf_ne (by omega)]; exact q24
        · rw [← hQ3, setR_same, updf_ne (by omega), ← hQ2, setR_same, updf_same rfl]
        · rw [← hQ3, setR_same, updf_same rfl]
      · rw [b2_f q] at sm
        refine ⟨(I (e + ((k + 1 : Nat) : Int)), mk Q' w rf), ?_, Q', rfl, b1, b2, by omega, ?_⟩
        · have ek : e + (k : Int) + 1 = e + ((k + 1 : Nat) : Int) := by omega
          simp (disch := first | assumption | omega) only [fX1_findLastTurner_L17, fX1_findLastTurner_b90, I_lit, orb_I, I_add, I_sub, I_mul, I_neg, nm_eq, bd0_s, bd2_s, un2_eq, un3_eq, un4_eq, un5_eq, un6_eq, cs2_l, cs2_r, mk_1, mk_2, wI_mk, wL_mk, wR_mk, setR_same, setR_setR, rZ_0, rZ_1, rZ_b2, it_b2, it_nb2, it_b21, it_nb21, I_lt, I_le, I_eq, I_div, castI, if_true, if_false, Classical.not_not, gC186_0, d3, h5, h6, sm]
          rw [ek]
        · rcases b4 with ⟨c1, c2⟩ | ⟨t, c1, c2, c3, c4⟩
          · refine Or.inl ⟨fun j h1 h2 => ?_, c2⟩
            by_cases ej : j = e + k
            · rw [ej]; exact q
            · exact c1 j h1 (by omega)
          · refine Or.inr ⟨t, by omega, c2, fun j h1 h2 => ?_, c4⟩
            by_cases ej : j = e + k
            · rw [ej]; exact q
            · exact c3 j h1 (by omega)) (by
      intro s ⟨Q', hs, b1, b2, b3, b4⟩
      subst hs
      have cp1 : CP 67 Q' N := CP_q cp (fun a h1 h2 => b1 a (by omega))
      have d3 : Q' 67 16 = N 3 := cp1.1.2.2.2.1
      have ek : e + ((min 600 (e + N 3) - e).toNat : Int) = min 600 (e + N 3) := by omega
      refine ⟨mk Q' w rf, ?_, Q', rfl, b1, b2, ?_⟩
      · by_cases q : e + N 3 ≤ 600
        · have h5 : e + N 3 ≤ e + ((min 600 (e + N 3) - e).toNat : Int) := by omega
          simp (disch := first | assumption | omega) only [fX1_findLastTurner_L17, I_lit, orb_I, I_add, I_sub, I_mul, I_neg, nm_eq, bd0_s, bd2_s, un2_eq, un3_eq, un4_eq, un5_eq, un6_eq, cs2_l, cs2_r, mk_1, mk_2, wI_mk, wL_mk, wR_mk, setR_same, setR_setR, rZ_0, rZ_1, rZ_b2, it_b2, it_nb2, it_b21, it_nb21, I_lt, I_le, I_eq, I_div, castI, if_true, if_false, Classical.not_not, gC186_0, d3, h5]
        · have h5 : ¬ (e + N 3 ≤ e + ((min 600 (e + N 3) - e).toNat : Int)) := by omega
          have h6 : 600 ≤ e + ((min 600 (e + N 3) - e).toNat : Int) := by omega
          simp (disch := first | assumption | omega) only [fX1_findLastTurner_L17, I_lit, orb_I, I_add, I_sub, I_mul, I_neg, nm_eq, bd0_s, bd2_s, un2_eq, un3_eq, un4_eq, un5_eq, un6_eq, cs2_l, cs2_r, mk_1, mk_2, wI_mk, wL_mk, wR_mk, setR_same, setR_setR, rZ_0, rZ_1, rZ_b2, it_b2, it_nb2, it_b21, it_nb21, I_lt, I_le, I_eq, I_div, castI, if_true, if_false, Classical.not_not, gC186_0, d3, h5, h6]
      · rw [ek] at b4
        exact b4)
  refine ⟨e, Q', h2, ?_, b1, ?_⟩
  · simp (disch := first | assumption | omega) only [fX1_findLastTurner, fX1_findLastTurner_b96, I_lit, orb_I, I_add, I_sub, I_mul, I_neg, nm_eq, bd0_s, bd2_s, un2_eq, un3_eq, un4_eq, un5_eq, un6_eq, cs2_l, cs2_r, mk_1, mk_2, wI_mk, wL_mk, wR_mk, setR_same, setR_setR, rZ_0, rZ_1, rZ_b2, it_b2, it_nb2, it_b21, it_nb21, I_lt, I_le, I_eq, I_div, castI, if_true, if_false, Classical.not_not]
    have hQ0' : setR Q 186 (updf (updf (Q 186) 7 (-1)) 8 (-1)) = Q0 := by
      rw [← hQ0, setR_same, setR_setR]
    simp only [hQ0', h1, bd0_s, h3]
  · rcases b3 with ⟨c1, c2⟩ | ⟨t, c1, c2, c3, c4⟩
    · exact Or.inl ⟨fun j h1 h2 h3 => c1 j h1 (by omega), c2⟩
    · exact Or.inr ⟨t, ⟨by omega, c2, fun j h1 h2 h3 => c3 j h1 (by omega)⟩, c4⟩
