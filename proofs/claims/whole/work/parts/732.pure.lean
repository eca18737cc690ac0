theorem LastW_u {N : Int → Int} {g e t t' : Int} (h : LastW N g e t) (h' : LastW N g e t') : t = t' := by
  obtain ⟨a1, a2, a3⟩ := h
  obtain ⟨b1, b2, b3⟩ := h'
  by_cases c : t < t'
  · exact absurd b2 (a3 t' c (by omega) (by omega))
  · by_cases c2 : t' < t
    · exact absurd a2 (b3 t c2 (by omega) (by omega))
    · omega
theorem Last_None {N : Int → Int} {g e t : Int} (h : LastW N g e t) (h' : NoneW N g e) : False := h' t h.1.1 (by have := h.1; omega) (by have := h.1; omega) h.2.1
theorem cs3_l {A1 A2 A3 B : Type} {F1 : A1 → B} {F2 : A2 → B} {F3 : A3 → B} {x : A1} : cs3 F1 F2 F3 (.inl x) = F1 x := rfl
theorem cs3_m {A1 A2 A3 B : Type} {F1 : A1 → B} {F2 : A2 → B} {F3 : A3 → B} {x : A2} : cs3 F1 F2 F3 (.inr (.inl x)) = F2 x := rfl
theorem cs3_r {A1 A2 A3 B : Type} {F1 : A1 → B} {F2 : A2 → B} {F3 : A3 → B} {x : A3} : cs3 F1 F2 F3 (.inr (.inr x)) = F3 x := rfl
theorem M_playOf {S : Nat → Nat × Nat} {R : Nat → Int → Int} {w : Nat → Nat → Int64} {rf : Nat → Nat → Option Nat} {g e : Int} (hS : SMok S) (hr : RMok rf) (wf : WFP (R 66)) (wl : WFL (R 66)) (hg : 0 ≤ g ∧ g < R 66 1) (hee : R 66 102 ≤ e ∧ e ≤ 600) (he : fX13_endOf S (mk R w rf) 64 (I g) = some (I (ii (e = 600) (-1) e))) : ∃ r R', fX13_playOf S (mk R w rf) 64 (I g) = some (I r, mk R' w rf) ∧ (∀ a, a ≠ 64 → R' a = R a) ∧ (∀ j, j ≠ 29 → R' 64 j = R 64 j) ∧ ((NoneW (R 66) g e ∧ r = -1) ∨ ∃ t, LastW (R 66) g e t ∧ r = lastP (R 66) g t ∧ R' 64 29 = t) := by
  have hb := wl.1
  have wn0 := wf.1
  have wn1 := wf.2.1
  have wn3 := wf.2.2.2.1
  obtain ⟨g1, g2, g4, g5⟩ := WFP_own wf hg
  by_cases h6 : e = 600
  · rw [ii_t h6] at he
    refine ⟨-1, R, ?_, fun a h => rfl, fun j h => rfl, Or.inl ⟨fun j h1 h2 h3 => by omega, rfl⟩⟩
    simp (disch := first | assumption | omega) only [fX13_playOf, I_lit, orb_I, I_add, I_sub, I_mul, I_neg, nm_eq, bd0_s, bd2_s, un2_eq, un3_eq, un4_eq, un5_eq, un6_eq, cs2_l, cs2_r, mk_1, mk_2, wI_mk, wL_mk, wR_mk, setR_same, setR_setR, rZ_0, rZ_1, rZ_b2, it_b2, it_nb2, it_b21, it_nb21, I_lt, I_le, I_eq, I_div, castI, if_true, if_false, Classical.not_not, he, not_true]
  · rw [ii_f h6] at he
    have hne : ¬ (e = -1) := by omega
    obtain ⟨r, h1, q⟩ := loop_inv (f := fX13_playOf_L30 S 64 (I g) (I e)) (m := 1000) (s := (I (min 600 (e + R 66 3) - 1), mk R w rf)) (fun k s => ∃ R', s = (I (min 600 (e + R 66 3) - 1 - k), mk R' w rf) ∧ (∀ a, a ≠ 64 → R' a = R a) ∧ (∀ j, j ≠ 29 → R' 64 j = R 64 j) ∧ e - 1 ≤ min 600 (e + R 66 3) - 1 - k ∧ ∀ j, min 600 (e + R 66 3) - 1 - k < j → j < min 600 (e + R 66 3) → ¬ someW (R 66) g j) (fun r => ∃ R', (∀ a, a ≠ 64 → R' a = R a) ∧ (∀ j, j ≠ 29 → R' 64 j = R 64 j) ∧ ((r = .inr (.inr (mk R' w rf)) ∧ NoneW (R 66) g e) ∨ (∃ t, LastW (R 66) g e t ∧ R' 64 29 = t ∧ ((r = .inl (mk R' w rf) ∧ wilA (R 66) (R 66 (60 + g)) t) ∨ (r = .inr (.inl (mk R' w rf)) ∧ ¬ wilA (R 66) (R 66 (60 + g)) t))))) (min 600 (e + R 66 3) - e).toNat (by omega) ⟨R, by simp, fun a h => rfl, fun j h => rfl, by omega, fun j h1 h2 => by omega⟩ (by
        intro k s hk ⟨R', hs, b1, b2, b3, b4⟩
        subst hs
        have h5 : ¬ (min 600 (e + R 66 3) - 1 - (k : Int) < e) := by omega
        generalize hR2 : setR R' 64 (updf (R' 64) 29 (min 600 (e + R 66 3) - 1 - k)) = R2
        have r2 : ∀ a, a ≠ 64 → R2 a = R a := fun a ha => by rw [← hR2, setR_ne ha, b1 a ha]
        have r264 : ∀ j, j ≠ 29 → R2 64 j = R 64 j := fun j hj => by rw [← hR2, setR_same, updf_ne hj, b2 j hj]
        have r229 : R2 64 29 = min 600 (e + R 66 3) - 1 - k := by rw [← hR2, setR_same, updf_same rfl]
        have R2_66 : R2 66 = R 66 := r2 66 (by omega)
        have m1 := M_isWilling (S := S) (w := w) (R := R2) (p := R 66 (56 + g)) (h := min 600 (e + R 66 3) - 1 - k) hS hr (by rw [R2_66]; exact wf) (by rw [R2_66]; exact wl) (by omega) (by rw [R2_66]; omega)
        have m2 := M_isWilling (S := S) (w := w) (R := R2) (p := R 66 (60 + g)) (h := min 600 (e + R 66 3) - 1 - k) hS hr (by rw [R2_66]; exact wf) (by rw [R2_66]; exact wl) (by omega) (by rw [R2_66]; omega)
        rw [R2_66] at m1 m2
        generalize hT : min 600 (e + R 66 3) - 1 - (k : Int) = T at *
        have main : fX13_playOf_L30 S 64 (I g) (I e) (I T, mk R' w rf) = @ite _ (wilA (R 66) (R 66 (60 + g)) T) (Classical.propDecidable _) (some (Sum.inr (Sum.inl (mk R2 w rf)))) (@ite _ (wilA (R 66) (R 66 (56 + g)) T) (Classical.propDecidable _) (some (Sum.inr (Sum.inr (Sum.inl (mk R2 w rf))))) (some (Sum.inl (I (T - 1), mk R2 w rf)))) := by
          simp (disch := first | assumption | omega) only [fX13_playOf_L30, I_lit, orb_I, I_add, I_sub, I_mul, I_neg, nm_eq, bd0_s, bd2_s, un2_eq, un3_eq, un4_eq, un5_eq, un6_eq, cs2_l, cs2_r, mk_1, mk_2, wI_mk, wL_mk, wR_mk, setR_same, setR_setR, rZ_0, rZ_1, rZ_b2, it_b2, it_nb2, it_b21, it_nb21, I_lt, I_le, I_eq, I_div, castI, if_true, if_false, Classical.not_not, h5, hR2, gM14, ldM66, R2_66, m1, m2]
          rfl
        by_cases q2 : wilA (R 66) (R 66 (60 + g)) T
        · right
          refine ⟨.inl (mk R2 w rf), by rw [main, if_pos q2], R2, r2, r264, Or.inr ⟨T, ⟨by omega, Or.inr q2, fun j h1 h2 h3 => b4 j h1 (by omega)⟩, r229, Or.inl ⟨rfl, q2⟩⟩⟩
        · by_cases q1 : wilA (R 66) (R 66 (56 + g)) T
          · right
            refine ⟨.inr (.inl (mk R2 w rf)), by rw [main, if_neg q2, if_pos q1], R2, r2, r264, Or.inr ⟨T, ⟨by omega, Or.inl q1, fun j h1 h2 h3 => b4 j h1 (by omega)⟩, r229, Or.inr ⟨rfl, q2⟩⟩⟩
          · left
            refine ⟨(I (T - 1), mk R2 w rf), by rw [main, if_neg q2, if_neg q1], R2, ?_, r2, r264, by omega, ?_⟩
            · congr 2
              omega
            · intro j h1 h2
              by_cases ej : j = T
              · rw [ej]
                intro hh
                rcases hh with hh | hh
                · exact q1 hh
                · exact q2 hh
              · exact b4 j (by omega) h2) (by
        intro s ⟨R', hs, b1, b2, b3, b4⟩
        subst hs
        have h5 : (min 600 (e + R 66 3) - 1 - ((min 600 (e + R 66 3) - e).toNat : Int) < e) := by omega
        refine ⟨.inr (.inr (mk R' w rf)), ?_, R', b1, b2, Or.inl ⟨rfl, fun j h1 h2 h3 => b4 j (by omega) (by omega)⟩⟩
        simp (disch := first | assumption | omega) only [fX13_playOf_L30, I_lit, orb_I, I_add, I_sub, I_mul, I_neg, nm_eq, bd0_s, bd2_s, un2_eq, un3_eq, un4_eq, un5_eq, un6_eq, cs2_l, cs2_r, mk_1, mk_2, wI_mk, wL_mk, wR_mk, setR_same, setR_setR, rZ_0, rZ_1, rZ_b2, it_b2, it_nb2, it_b21, it_nb21, I_lt, I_le, I_eq, I_div, castI, if_true, if_false, Classical.not_not, h5])
    obtain ⟨R', b1, b2, b3⟩ := q
    have R66 : R' 66 = R 66 := b1 66 (by omega)
    have ml : fX13_least S (mk R w rf) (I 600) (I (e + R 66 3)) = some (I (min 600 (e + R 66 3))) := M_least (by omega) (by omega)
    have pre : fX13_playOf S (mk R w rf) 64 (I g) = (cs3 (fun τ7 => gR τ7 64 14 fun r8 => ldI S τ7 r8 (I (60 + g)) fun v9 => some (v9, τ7)) (fun τ10 => gR τ10 64 14 fun r11 => ldI S τ10 r11 (I (56 + g)) fun v12 => some (v12, τ10)) (fun τ13 => some (I (-1), τ13))) r := by
      simp (disch := first | assumption | omega) only [fX13_playOf, I_lit, orb_I, I_add, I_sub, I_mul, I_neg, nm_eq, bd0_s, bd2_s, un2_eq, un3_eq, un4_eq, un5_eq, un6_eq, cs2_l, cs2_r, mk_1, mk_2, wI_mk, wL_mk, wR_mk, setR_same, setR_setR, rZ_0, rZ_1, rZ_b2, it_b2, it_nb2, it_b21, it_nb21, I_lt, I_le, I_eq, I_div, castI, if_true, if_false, Classical.not_not, he, hne, not_false_eq_true, gM14, ldM66, ml, h1]
    rcases b3 with ⟨c1, c2⟩ | ⟨t, c1, c2, c3⟩
    · refine ⟨-1, R', ?_, b1, b2, Or.inl ⟨c2, rfl⟩⟩
      rw [pre, c1, cs3_r]
    · refine ⟨lastP (R 66) g t, R', ?_, b1, b2, Or.inr ⟨t, c1, rfl, c2⟩⟩
      rcases c3 with ⟨d1, d2⟩ | ⟨d1, d2⟩
      · rw [pre, d1, cs3_l]
        simp (disch := first | assumption | omega) only [gM14, ldM66, R66]
        unfold lastP
        rw [ii_t d2]
      · rw [pre, d1, cs3_m]
        simp (disch := first | assumption | omega) only [gM14, ldM66, R66]
        unfold lastP
        rw [ii_f d2]
theorem play_ok {S S' : Nat → Nat × Nat} {Q : Nat → Int → Int} {w : Nat → Nat → Int64} {rf : Nat → Nat → Option Nat} {R : Nat → Int → Int} {v : Nat → Nat → Int64} {rm : Nat → Nat → Option Nat} {g : Int} (hS : SCok S) (hS' : SMok S') (hr : RCok rf) (hr' : RMok rm) (inv : INV Q w rf R v) (hg : -2147483648 ≤ g ∧ g < 2147483648) : ∃ a b Q' R', fX12_play S (mk Q w rf) 64 (I g) = some (I a, mk Q' w rf) ∧ fX12_playAt S (mk Q w rf) 64 (I g) = some (I b, mk Q' w rf) ∧ fX13_playOf S' (mk R v rm) 64 (I g) = some (I a, mk R' v rm) ∧ (a = -1 → b = -1) ∧ (a ≠ -1 → R' 64 29 = b) ∧ (-1 ≤ a ∧ a ≤ 8) ∧ INV Q' w rf R' v ∧ R' 64 32 = R 64 32 ∧ R' 78 = R 78 := by
  have inv' := inv
  obtain ⟨ta, ⟨wf, cp, nam⟩, ⟨lo, cl⟩, -⟩ := inv
  have k1 := C_isRunning (S := S) (w := w) hS hr wf cp cl hg
  obtain ⟨m1, m2⟩ := M_endOf (S := S') (w := v) (R := R) (g := g) hS' hr' wf lo.1 hg
  by_cases h : (0 ≤ g ∧ g < R 66 1) ∧ ¬ lapA (R 66) g
  · rw [b2_t h] at k1
    obtain ⟨e, m3, m4⟩ := m2 h
    obtain ⟨Q1, l1, l2, l3⟩ := C_look (S := S) (w := w) hS hr wf lo.1 cp cl h.1
    have cl1 : CL 104 Q1 (R 66) := CL_q cl (fun a h1 h2 => l3 a (by omega))
    have cp1 : CP 67 Q1 (R 66) := CP_q cp (fun a h1 h2 => l3 a (by omega))
    obtain ⟨e', Q2, l4, l5, l6, l7⟩ := C_lastTurner (S := S) (w := w) hS hr wf lo.1 cp1 cl1 l2 h.1
    have ee := EndAt_u m4 l4
    subst ee
    have er := m4.1
    obtain ⟨r, R', n1, n2, n3, n4⟩ := M_playOf (S := S') (w := v) hS' hr' wf lo.1 h.1 er m3
    obtain ⟨g1, g2, g4, g5⟩ := WFP_own wf h.1
    have wn0 := wf.1
    have lp : ∀ t, 0 ≤ lastP (R 66) g t ∧ lastP (R 66) g t ≤ 8 := by
      intro t
      unfold lastP ii
      split <;> omega
    have q3 : ∀ a, a < 186 ∨ 188 < a → Q2 a = Q a := fun a ha => by rw [l6 a (by omega), l3 a ha]
    have invF : INV Q2 w rf R' v := INV_q (INV_f inv' q3) (fun a h => rfl) rfl rfl (fun a h => n2 a (by unfold KM at h; omega)) (fun j h => n3 j (by unfold K64 at h; omega))
    have c1 : fX12_play S (mk Q w rf) 64 (I g) = some (I (Q2 186 7), mk Q2 w rf) := by
      simp (disch := first | assumption | omega) only [fX12_play, I_lit, orb_I, I_add, I_sub, I_mul, I_neg, nm_eq, bd0_s, bd2_s, un2_eq, un3_eq, un4_eq, un5_eq, un6_eq, cs2_l, cs2_r, mk_1, mk_2, wI_mk, wL_mk, wR_mk, setR_same, setR_setR, rZ_0, rZ_1, rZ_b2, it_b2, it_nb2, it_b21, it_nb21, I_lt, I_le, I_eq, I_div, castI, if_true, if_false, Classical.not_not, k1, Int.reduceEq, not_false_eq_true, gC64_7, l1, l5]
    have c2 : fX12_playAt S (mk Q w rf) 64 (I g) = some (I (Q2 186 8), mk Q2 w rf) := by
      simp (disch := first | assumption | omega) only [fX12_playAt, I_lit, orb_I, I_add, I_sub, I_mul, I_neg, nm_eq, bd0_s, bd2_s, un2_eq, un3_eq, un4_eq, un5_eq, un6_eq, cs2_l, cs2_r, mk_1, mk_2, wI_mk, wL_mk, wR_mk, setR_same, setR_setR, rZ_0, rZ_1, rZ_b2, it_b2, it_nb2, it_b21, it_nb21, I_lt, I_le, I_eq, I_div, castI, if_true, if_false, Classical.not_not, k1, Int.reduceEq, not_false_eq_true, gC64_7, l1, l5]
    rcases l7 with ⟨p1, p2, p3⟩ | ⟨t, p1, p2, p3⟩
    · rcases n4 with ⟨o1, o2⟩ | ⟨t, o1, o2⟩
      · rw [p2] at c1
        rw [p3] at c2
        rw [o2] at n1
        exact ⟨-1, -1, Q2, R', c1, c2, n1, fun _ => rfl, fun h => absurd rfl h, by omega, invF, n3 32 (by omega), n2 78 (by omega)⟩
      · exact absurd (Last_None o1 p1) (fun h => h)
    · rcases n4 with ⟨o1, o2⟩ | ⟨t', o1, o2, o3⟩
      · exact absurd (Last_None p1 o1) (fun h => h)
      · have et := LastW_u p1 o1
        subst et
        have := lp t
        rw [p3] at c1
        rw [p2] at c2
        rw [o2] at n1
        exact ⟨lastP (R 66) g t, t, Q2, R', c1, c2, n1, fun h => by omega, fun _ => o3, by omega, invF, n3 32 (by omega), n2 78 (by omega)⟩
  · rw [b2_f h] at k1
    refine ⟨-1, -1, Q, R, ?_, ?_, ?_, fun _ => rfl, fun h => absurd rfl h, by omega, inv', rfl, rfl⟩
    · simp (disch := first | assumption | omega) only [fX12_play, I_lit, orb_I, I_add, I_sub, I_mul, I_neg, nm_eq, bd0_s, bd2_s, un2_eq, un3_eq, un4_eq, un5_eq, un6_eq, cs2_l, cs2_r, mk_1, mk_2, wI_mk, wL_mk, wR_mk, setR_same, setR_setR, rZ_0, rZ_1, rZ_b2, it_b2, it_nb2, it_b21, it_nb21, I_lt, I_le, I_eq, I_div, castI, if_true, if_false, Classical.not_not, k1, not_true]
    · simp (disch := first | assumption | omega) only [fX12_playAt, I_lit, orb_I, I_add, I_sub, I_mul, I_neg, nm_eq, bd0_s, bd2_s, un2_eq, un3_eq, un4_eq, un5_eq, un6_eq, cs2_l, cs2_r, mk_1, mk_2, wI_mk, wL_mk, wR_mk, setR_same, setR_setR, rZ_0, rZ_1, rZ_b2, it_b2, it_nb2, it_b21, it_nb21, I_lt, I_le, I_eq, I_div, castI, if_true, if_false, Classical.not_not, k1, not_true]
    · have m1' := m1 h
      simp (disch := first | assumption | omega) only [fX13_playOf, I_lit, orb_I, I_add, I_sub, I_mul, I_neg, nm_eq, bd0_s, bd2_s, un2_eq, un3_eq, un4_eq, un5_eq, un6_eq, cs2_l, cs2_r, mk_1, mk_2, wI_mk, wL_mk, wR_mk, setR_same, setR_setR, rZ_0, rZ_1, rZ_b2, it_b2, it_nb2, it_b21, it_nb21, I_lt, I_le, I_eq, I_div, castI, if_true, if_false, Classical.not_not, m1', not_true]
theorem op_play {S S' : Nat → Nat × Nat} (hS : SCok S) (hS' : SMok S') (a1 : Int32) : OpC1 (fun σ => fX12_play S σ 64 a1) (fun σ => fX13_play S' σ 64 a1) := by
  intro t σC σM ⟨Q, w, rf, R, v, rm, q1, q2, hr, hr', inv, tx⟩; subst q1; subst q2
  obtain ⟨g, rfl, hg⟩ := exI a1
  obtain ⟨a, b, Q', R', e1, e2, e3, e4, e5, e6, e7, e8, e9⟩ := play_ok (S := S) (S' := S') (R := th0 R) hS hS' hr hr' (INV_th inv) hg
  refine ⟨I a, mk Q' w rf, mk R' v rm, e1, ?_, Q', w, rf, R', v, rm, rfl, rfl, hr, hr', e7, ?_⟩
  · simp only [fX13_play, th0_I, e3]
    rfl
  · rw [e8, e9]; exact tx0 tx
theorem op_playAt {S S' : Nat → Nat × Nat} (hS : SCok S) (hS' : SMok S') (a1 : Int32) : OpC1 (fun σ => fX12_playAt S σ 64 a1) (fun σ => fX13_playAt S' σ 64 a1) := by
  intro t σC σM ⟨Q, w, rf, R, v, rm, q1, q2, hr, hr', inv, tx⟩; subst q1; subst q2
  obtain ⟨g, rfl, hg⟩ := exI a1
  obtain ⟨a, b, Q', R', e1, e2, e3, e4, e5, e6, e7, e8, e9⟩ := play_ok (S := S) (S' := S') (R := th0 R) hS hS' hr hr' (INV_th inv) hg
  refine ⟨I b, mk Q' w rf, mk R' v rm, e2, ?_, Q', w, rf, R', v, rm, rfl, rfl, hr, hr', e7, ?_⟩
  · simp only [fX13_playAt, fX13_playAt_b22, th0_I, e3]
    simp (disch := first | assumption | omega) only [I_lit, orb_I, I_add, I_sub, I_mul, I_neg, nm_eq, bd0_s, bd2_s, un2_eq, un3_eq, un4_eq, un5_eq, un6_eq, cs2_l, cs2_r, mk_1, mk_2, wI_mk, wL_mk, wR_mk, setR_same, setR_setR, rZ_0, rZ_1, rZ_b2, it_b2, it_nb2, it_b21, it_nb21, I_lt, I_le, I_eq, I_div, castI, if_true, if_false, Classical.not_not]
    by_cases h : a = -1
    · rw [if_neg (by omega), e4 h]
    · rw [if_pos h, e5 h]
  · rw [e8, e9]; exact tx0 tx
