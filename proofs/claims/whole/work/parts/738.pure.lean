theorem op_law {S S' : Nat → Nat × Nat} (hS : SCok S) (hS' : SMok S') (a1 a2 : Int32) : OpC1 (fun σ => fX12_law S σ 64 a1 a2) (fun σ => fX13_law S' σ 64 a1 a2) := by
  intro t σC σM ⟨Q, w, rf, R, v, rm, q1, q2, hr, hr', inv, tx⟩; subst q1; subst q2
  obtain ⟨s, rfl, hs⟩ := exI a1
  obtain ⟨n, rfl, hn⟩ := exI a2
  have inv0 := INV_th inv
  have r66 : th0 R 66 = R 66 := th0_ne (by omega)
  have inv' := inv
  obtain ⟨ta, ⟨wf, cp, nam⟩, ⟨lo, cl⟩, -⟩ := inv
  have hb := lo.1.1
  have wn1 := wf.2.1
  have wn3 := wf.2.2.2.1
  have d1 : Q 67 12 = R 66 1 := cp.1.2.1
  have c104 := cl.1.2.1
  have k2 := C_isFrom (S := S) (σ := mk Q w rf) (v := n) (a := 1) (b := 60) hn (by omega) (by omega)
  have m2 := M_isIn (S := S') (σ := mk (th0 R) v rm) (v := n) (a := 1) (b := 60) hn (by omega) (by omega)
  obtain ⟨p1, p2⟩ := shl_pw (n := R 66 1) (by omega)
  have fin1 : ∀ (h1 : fX12_law S (mk Q w rf) 64 (I s) (I n) = some (I (-1), mk Q w rf)) (h2 : fX13_law S' (mk R v rm) 64 (I s) (I n) = some (I (-1), mk (th0 R) v rm)), ∃ r σC' σM', fX12_law S (mk Q w rf) 64 (I s) (I n) = some (r, σC') ∧ fX13_law S' (mk R v rm) 64 (I s) (I n) = some (r, σM') ∧ SimX t σC' σM' := fun h1 h2 => ⟨_, _, _, h1, h2, Q, w, rf, th0 R, v, rm, rfl, rfl, hr, hr', inv0, tx0 tx⟩
  by_cases h1 : s < 0
  · apply fin1
    · simp (disch := first | assumption | omega) only [fX12_law, fX12_law_b39, I_lit, orb_I, I_add, I_sub, I_mul, I_neg, nm_eq, bd0_s, bd2_s, un2_eq, un3_eq, un4_eq, un5_eq, un6_eq, cs2_l, cs2_r, mk_1, mk_2, wI_mk, wL_mk, wR_mk, setR_same, setR_setR, rZ_0, rZ_1, rZ_b2, it_b2, it_nb2, it_b21, it_nb21, I_lt, I_le, I_eq, I_div, castI, if_true, if_false, Classical.not_not, h1]
    · simp only [fX13_law, fX13_law_b43, th0_I]
      simp (disch := first | assumption | omega) only [I_lit, orb_I, I_add, I_sub, I_mul, I_neg, nm_eq, bd0_s, bd2_s, un2_eq, un3_eq, un4_eq, un5_eq, un6_eq, cs2_l, cs2_r, mk_1, mk_2, wI_mk, wL_mk, wR_mk, setR_same, setR_setR, rZ_0, rZ_1, rZ_b2, it_b2, it_nb2, it_b21, it_nb21, I_lt, I_le, I_eq, I_div, castI, if_true, if_false, Classical.not_not, h1]
  by_cases h2 : pw (R 66 1) ≤ s
  · apply fin1
    · simp (disch := first | assumption | omega) only [fX12_law, fX12_law_b39, I_lit, orb_I, I_add, I_sub, I_mul, I_neg, nm_eq, bd0_s, bd2_s, un2_eq, un3_eq, un4_eq, un5_eq, un6_eq, cs2_l, cs2_r, mk_1, mk_2, wI_mk, wL_mk, wR_mk, setR_same, setR_setR, rZ_0, rZ_1, rZ_b2, it_b2, it_nb2, it_b21, it_nb21, I_lt, I_le, I_eq, I_div, castI, if_true, if_false, Classical.not_not, h1, gC64_1, d1, p1, h2]
    · simp only [fX13_law, fX13_law_b43, th0_I]
      simp (disch := first | assumption | omega) only [I_lit, orb_I, I_add, I_sub, I_mul, I_neg, nm_eq, bd0_s, bd2_s, un2_eq, un3_eq, un4_eq, un5_eq, un6_eq, cs2_l, cs2_r, mk_1, mk_2, wI_mk, wL_mk, wR_mk, setR_same, setR_setR, rZ_0, rZ_1, rZ_b2, it_b2, it_nb2, it_b21, it_nb21, I_lt, I_le, I_eq, I_div, castI, if_true, if_false, Classical.not_not, h1, gM14, ldM66, r66, p1, h2]
  by_cases h3 : I s &&& I (R 66 104) = I 0
  · by_cases h4 : 1 ≤ n ∧ n ≤ 60
    · rw [b2_t h4] at k2 m2
      obtain ⟨K, hK⟩ : ∃ K : Nat, (K : Int) = min n (600 - R 66 102) := ⟨(min n (600 - R 66 102)).toNat, by omega⟩
      obtain ⟨r, Q1, c1, c2, c3, c4, c5⟩ := C_lawL (S := S) (w := w) (s := s) (K := K) hS hr wf lo.1 cp cl h4 hK
      have ma := M_layAside (S := S') (w := v) (R := th0 R) hS' hr'
      rw [r66] at ma
      generalize hR1 : setR (th0 R) 70 (cpf (th0 R 70) (R 66) 0 102 39) = R1 at ma
      have r1 : ∀ a, a ≠ 70 → R1 a = th0 R a := fun a ha => by rw [← hR1, setR_ne ha]
      have R1_66 : R1 66 = R 66 := by rw [r1 66 (by omega), r66]
      have R1_70 : ∀ j, 0 ≤ j → j < 39 → R1 70 j = R 66 (102 + j) := by
        intro j h1 h2
        rw [← hR1, setR_same, cpf_in (k := 102 + j) (by omega) (by omega)]
      obtain ⟨r', g1, x, M, g2, g3, g4⟩ := loop_inv (f := fX13_law_L62 S' 64 (I s) (I n) (I (R 66 3))) (m := 1000) (s := (I (-1), I 1, mk R1 v rm)) (fun k t => (∃ l, t = (I (-1), I (1 + k), mk (setR R1 66 (updf (R 66) 3 l)) v rm) ∧ ∀ j : Int, 1 ≤ j → j < 1 + k → ¬ okL (R 66) s j K (R 66 1).toNat) ∨ (∃ i : Int, (1 ≤ i ∧ i ≤ 9 ∧ i < 1 + k) ∧ t = (I i, I (i + 1), mk (setR R1 66 (updf (R 66) 3 i)) v rm) ∧ okL (R 66) s i K (R 66 1).toNat ∧ ∀ j, 1 ≤ j → j < i → ¬ okL (R 66) s j K (R 66 1).toNat)) (fun t => ∃ x l, t = (I x, mk (setR R1 66 (updf (R 66) 3 l)) v rm) ∧ lawR (R 66) s K x ∧ True) 9 (by omega) (Or.inl ⟨R 66 3, by rw [updf_id, ← R1_66, setR_id]; rfl, fun j h1 h2 => by omega⟩) (by
        intro k t hk ht
        rcases ht with ⟨l, ht, hj⟩ | ⟨i, hi, ht, hok, hj⟩
        · subst ht
          left
          have h5 : ¬ (9 < 1 + (k : Int)) := by omega
          have s66 : updf (updf (R 66) 3 l) 3 (1 + (k : Int)) = updf (R 66) 3 (1 + (k : Int)) := updf_updf
          have wfl := WFP_3 (l := 1 + (k : Int)) wf (by omega)
          have wll := WFL_3 (l := 1 + (k : Int)) lo.1
          have w8l : W8 (updf (R 66) 3 (1 + (k : Int))) := W8_cong (W8_of wf lo.2) (updf_ne (by omega)) (updf_ne (by omega)) (fun g h1 h2 => updf_ne (by omega))
          have mp := M_passHours (S := S') (w := v) (R := setR R1 66 (updf (R 66) 3 (1 + (k : Int)))) (n := n) hS' hr' (by rw [setR_same]; exact wfl) (by rw [setR_same]; exact wll) (by rw [setR_same]; exact w8l) (by omega)
          have e102 : updf (R 66) 3 (1 + (k : Int)) 102 = R 66 102 := updf_ne (by omega)
          have eK : (min n (600 - R 66 102)).toNat = K := by omega
          rw [setR_same, setR_setR, e102, eK] at mp
          obtain ⟨i1, i2⟩ := OKL_hoursN wfl wll w8l K (by rw [e102]; omega)
          have agS := AgS_hoursN wfl wll w8l K (by rw [e102]; omega)
          have mt := M_takeBack (S := S') (w := v) (R := setR R1 66 (hoursN (updf (R 66) 3 (1 + (k : Int))) K)) hS' hr'
          rw [setR_same, setR_ne (by omega), back_eq i1.1 agS (fun j h1 h2 => by rw [R1_70 j h1 h2, updf_ne (by omega)]), setR_setR] at mt
          have ls := law_sim (l := 1 + (k : Int)) (K := K) wf lo (by omega) (by omega) (by omega : 0 ≤ s ∧ s < pw (R 66 1)) h3
          by_cases q : okL (R 66) s (1 + (k : Int)) K (R 66 1).toNat
          · have q' := ls.2 q
            refine ⟨(I (1 + (k : Int)), I (1 + (k : Int) + 1), mk (setR R1 66 (updf (R 66) 3 (1 + (k : Int)))) v rm), ?_, Or.inr ⟨1 + k, by omega, rfl, q, hj⟩⟩
            simp (disch := first | assumption | omega) only [fX13_law_L62, fX13_law_b105, I_lit, orb_I, I_add, I_sub, I_mul, I_neg, nm_eq, bd0_s, bd2_s, un2_eq, un3_eq, un4_eq, un5_eq, un6_eq, cs2_l, cs2_r, mk_1, mk_2, wI_mk, wL_mk, wR_mk, setR_same, setR_setR, rZ_0, rZ_1, rZ_b2, it_b2, it_nb2, it_b21, it_nb21, I_lt, I_le, I_eq, I_div, castI, if_true, if_false, Classical.not_not, h5, not_true, gM14, stM66, s66, mp, ldM66, q', mt]
          · have q' : ¬ (I s &&& I (hoursN (updf (R 66) 3 (1 + (k : Int))) K 104) = I 0) := fun h => q (ls.1 h)
            refine ⟨(I (-1), I (1 + ((k + 1 : Nat) : Int)), mk (setR R1 66 (updf (R 66) 3 (1 + (k : Int)))) v rm), ?_, Or.inl ⟨1 + k, rfl, ?_⟩⟩
            · have ek : 1 + (k : Int) + 1 = 1 + ((k + 1 : Nat) : Int) := by omega
              simp (disch := first | assumption | omega) only [fX13_law_L62, fX13_law_b105, I_lit, orb_I, I_add, I_sub, I_mul, I_neg, nm_eq, bd0_s, bd2_s, un2_eq, un3_eq, un4_eq, un5_eq, un6_eq, cs2_l, cs2_r, mk_1, mk_2, wI_mk, wL_mk, wR_mk, setR_same, setR_setR, rZ_0, rZ_1, rZ_b2, it_b2, it_nb2, it_b21, it_nb21, I_lt, I_le, I_eq, I_div, castI, if_true, if_false, Classical.not_not, h5, not_true, gM14, stM66, s66, mp, ldM66, q', not_false_eq_true, mt]
              rw [ek]
            · intro j h6 h7
              by_cases e : j = 1 + k
              · rw [e]; exact q
              · exact hj j h6 (by omega)
        · subst ht
          right
          have hne : ¬ (i = -1) := by omega
          refine ⟨(I i, mk (setR R1 66 (updf (R 66) 3 i)) v rm), ?_, i, i, rfl, Or.inr ⟨by omega, hok, hj⟩, trivial⟩
          by_cases h5 : 9 < i + 1
          · simp (disch := first | assumption | omega) only [fX13_law_L62, I_lit, orb_I, I_add, I_sub, I_mul, I_neg, nm_eq, bd0_s, bd2_s, un2_eq, un3_eq, un4_eq, un5_eq, un6_eq, cs2_l, cs2_r, mk_1, mk_2, wI_mk, wL_mk, wR_mk, setR_same, setR_setR, rZ_0, rZ_1, rZ_b2, it_b2, it_nb2, it_b21, it_nb21, I_lt, I_le, I_eq, I_div, castI, if_true, if_false, Classical.not_not, h5]
          · simp (disch := first | assumption | omega) only [fX13_law_L62, I_lit, orb_I, I_add, I_sub, I_mul, I_neg, nm_eq, bd0_s, bd2_s, un2_eq, un3_eq, un4_eq, un5_eq, un6_eq, cs2_l, cs2_r, mk_1, mk_2, wI_mk, wL_mk, wR_mk, setR_same, setR_setR, rZ_0, rZ_1, rZ_b2, it_b2, it_nb2, it_b21, it_nb21, I_lt, I_le, I_eq, I_div, castI, if_true, if_false, Classical.not_not, h5, hne, not_false_eq_true]) (by
        intro t ht
        rcases ht with ⟨l, ht, hj⟩ | ⟨i, hi, ht, hok, hj⟩
        · subst ht
          refine ⟨(I (-1), mk (setR R1 66 (updf (R 66) 3 l)) v rm), ?_, -1, l, rfl, Or.inl ⟨rfl, fun j h6 h7 => hj j h6 (by omega)⟩, trivial⟩
          have h5 : (9 : Int) < 1 + ((9 : Nat) : Int) := by omega
          simp (disch := first | assumption | omega) only [fX13_law_L62, un3_eq, I_lit, I_lt, h5, if_true]
        · subst ht
          have hne : ¬ (i = -1) := by omega
          refine ⟨(I i, mk (setR R1 66 (updf (R 66) 3 i)) v rm), ?_, i, i, rfl, Or.inr ⟨by omega, hok, hj⟩, trivial⟩
          by_cases h5 : 9 < i + 1
          · simp (disch := first | assumption | omega) only [fX13_law_L62, I_lit, orb_I, I_add, I_sub, I_mul, I_neg, nm_eq, bd0_s, bd2_s, un2_eq, un3_eq, un4_eq, un5_eq, un6_eq, cs2_l, cs2_r, mk_1, mk_2, wI_mk, wL_mk, wR_mk, setR_same, setR_setR, rZ_0, rZ_1, rZ_b2, it_b2, it_nb2, it_b21, it_nb21, I_lt, I_le, I_eq, I_div, castI, if_true, if_false, Classical.not_not, h5]
          · simp (disch := first | assumption | omega) only [fX13_law_L62, I_lit, orb_I, I_add, I_sub, I_mul, I_neg, nm_eq, bd0_s, bd2_s, un2_eq, un3_eq, un4_eq, un5_eq, un6_eq, cs2_l, cs2_r, mk_1, mk_2, wI_mk, wL_mk, wR_mk, setR_same, setR_setR, rZ_0, rZ_1, rZ_b2, it_b2, it_nb2, it_b21, it_nb21, I_lt, I_le, I_eq, I_div, castI, if_true, if_false, Classical.not_not, h5, hne, not_false_eq_true])
      subst g2
      have hcr : lawR (R 66) s K (ii (9 < r) (-1) r) := by
        by_cases q : 9 < r
        · rw [ii_t q]
          exact Or.inl ⟨rfl, fun l h6 h7 => c4 l h6 (by omega)⟩
        · rw [ii_f q]
          exact Or.inr ⟨by omega, c3 (by omega), c4⟩
      have ex := lawR_u g3 hcr
      refine ⟨I x, mk Q1 w rf, mk R1 v rm, ?_, ?_, Q1, w, rf, R1, v, rm, rfl, rfl, hr, hr', ?_, ?_⟩
      · simp (disch := first | assumption | omega) only [fX12_law, fX12_law_b39, fX12_law_b94, I_lit, orb_I, I_add, I_sub, I_mul, I_neg, nm_eq, bd0_s, bd2_s, un2_eq, un3_eq, un4_eq, un5_eq, un6_eq, cs2_l, cs2_r, mk_1, mk_2, wI_mk, wL_mk, wR_mk, setR_same, setR_setR, rZ_0, rZ_1, rZ_b2, it_b2, it_nb2, it_b21, it_nb21, I_lt, I_le, I_eq, I_div, castI, if_true, if_false, Classical.not_not, h1, gC64_1, d1, p1, h2, k2, Int.reduceEq, gC64_4, c104, h3, c1]
        rw [ex]
        by_cases q : 9 < r
        · rw [ii_t q, if_pos q]
        · rw [ii_f q, if_neg q]
      · have e3 : setR R1 66 (updf (updf (R 66) 3 M) 3 (R 66 3)) = R1 := by
          rw [updf_updf, updf_id, ← R1_66, setR_id]
        simp only [fX13_law, fX13_law_b43, fX13_law_b115, th0_I]
        simp (disch := first | assumption | omega) only [I_lit, orb_I, I_add, I_sub, I_mul, I_neg, nm_eq, bd0_s, bd2_s, un2_eq, un3_eq, un4_eq, un5_eq, un6_eq, cs2_l, cs2_r, mk_1, mk_2, wI_mk, wL_mk, wR_mk, setR_same, setR_setR, rZ_0, rZ_1, rZ_b2, it_b2, it_nb2, it_b21, it_nb21, I_lt, I_le, I_eq, I_div, castI, if_true, if_false, Classical.not_not, h1, gM14, ldM66, r66, p1, h2, h3, not_true, m2, Int.reduceEq, not_false_eq_true, ma, g1, stM66, e3]
      · exact INV_q (INV_f inv0 c5) (fun a h => rfl) rfl rfl (fun a h => r1 a (by unfold KM at h; omega)) (fun j h => by rw [r1 64 (by omega)])
      · rw [r1 64 (by omega), r1 78 (by omega)]; exact tx0 tx
    · rw [b2_f h4] at k2 m2
      apply fin1
      · simp (disch := first | assumption | omega) only [fX12_law, fX12_law_b39, I_lit, orb_I, I_add, I_sub, I_mul, I_neg, nm_eq, bd0_s, bd2_s, un2_eq, un3_eq, un4_eq, un5_eq, un6_eq, cs2_l, cs2_r, mk_1, mk_2, wI_mk, wL_mk, wR_mk, setR_same, setR_setR, rZ_0, rZ_1, rZ_b2, it_b2, it_nb2, it_b21, it_nb21, I_lt, I_le, I_eq, I_div, castI, if_true, if_false, Classical.not_not, h1, gC64_1, d1, p1, h2, k2]
      · simp only [fX13_law, fX13_law_b43, th0_I]
        simp (disch := first | assumption | omega) only [I_lit, orb_I, I_add, I_sub, I_mul, I_neg, nm_eq, bd0_s, bd2_s, un2_eq, un3_eq, un4_eq, un5_eq, un6_eq, cs2_l, cs2_r, mk_1, mk_2, wI_mk, wL_mk, wR_mk, setR_same, setR_setR, rZ_0, rZ_1, rZ_b2, it_b2, it_nb2, it_b21, it_nb21, I_lt, I_le, I_eq, I_div, castI, if_true, if_false, Classical.not_not, h1, gM14, ldM66, r66, p1, h2, h3, not_true, m2]
  · apply fin1
    · by_cases h4 : 1 ≤ n ∧ n ≤ 60
      · rw [b2_t h4] at k2
        simp (disch := first | assumption | omega) only [fX12_law, fX12_law_b39, I_lit, orb_I, I_add, I_sub, I_mul, I_neg, nm_eq, bd0_s, bd2_s, un2_eq, un3_eq, un4_eq, un5_eq, un6_eq, cs2_l, cs2_r, mk_1, mk_2, wI_mk, wL_mk, wR_mk, setR_same, setR_setR, rZ_0, rZ_1, rZ_b2, it_b2, it_nb2, it_b21, it_nb21, I_lt, I_le, I_eq, I_div, castI, if_true, if_false, Classical.not_not, h1, gC64_1, d1, p1, h2, k2, Int.reduceEq, gC64_4, c104, h3]
      · rw [b2_f h4] at k2
        simp (disch := first | assumption | omega) only [fX12_law, fX12_law_b39, I_lit, orb_I, I_add, I_sub, I_mul, I_neg, nm_eq, bd0_s, bd2_s, un2_eq, un3_eq, un4_eq, un5_eq, un6_eq, cs2_l, cs2_r, mk_1, mk_2, wI_mk, wL_mk, wR_mk, setR_same, setR_setR, rZ_0, rZ_1, rZ_b2, it_b2, it_nb2, it_b21, it_nb21, I_lt, I_le, I_eq, I_div, castI, if_true, if_false, Classical.not_not, h1, gC64_1, d1, p1, h2, k2]
    · simp only [fX13_law, fX13_law_b43, th0_I]
      simp (disch := first | assumption | omega) only [I_lit, orb_I, I_add, I_sub, I_mul, I_neg, nm_eq, bd0_s, bd2_s, un2_eq, un3_eq, un4_eq, un5_eq, un6_eq, cs2_l, cs2_r, mk_1, mk_2, wI_mk, wL_mk, wR_mk, setR_same, setR_setR, rZ_0, rZ_1, rZ_b2, it_b2, it_nb2, it_b21, it_nb21, I_lt, I_le, I_eq, I_div, castI, if_true, if_false, Classical.not_not, h1, gM14, ldM66, r66, p1, h2, h3, not_false_eq_true]
