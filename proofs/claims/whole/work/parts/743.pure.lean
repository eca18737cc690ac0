theorem C_keepFor {S : Nat → Nat × Nat} {Q : Nat → Int → Int} {w : Nat → Nat → Int64} {rf : Nat → Nat → Option Nat} {N : Int → Int} {g n : Int} (hS : SCok S) (hr : RCok rf) (wf : WFP N) (lo : LOK N) (cp : CP 67 Q N) (cl : CL 104 Q N) (fo : FO N g Q) (hg : 0 ≤ g ∧ g < N 1) (hl : ¬ lapA N g) (hn : 0 ≤ n ∧ n ≤ 60) (hn2 : N 102 + n ≤ 600) : ∃ Q', (fX10_keepFor S (mk Q w rf) 189 (I n) = some (I (ii (Fa N g n (eA N g (N 102) (N (125 + g)) - N 102) (N (133 + g)) < 1000) ((Pa N g n (eA N g (N 102) (N (125 + g)) - N 102) (N (133 + g))).length : Int) (-1)), mk Q' w rf)) ∧ (∀ a, a < 186 ∨ 192 < a → Q' a = Q a) ∧ (Fa N g n (eA N g (N 102) (N (125 + g)) - N 102) (N (133 + g)) < 1000 → Q' 189 4 = (Pa N g n (eA N g (N 102) (N (125 + g)) - N 102) (N (133 + g))).length ∧ (∀ (j : Nat) (h : j < (Pa N g n (eA N g (N 102) (N (125 + g)) - N 102) (N (133 + g))).length), Q' 192 j = (Pa N g n (eA N g (N 102) (N (125 + g)) - N 102) (N (133 + g)))[j])) ∧ (¬ (Fa N g n (eA N g (N 102) (N (125 + g)) - N 102) (N (133 + g)) < 1000) → Q' 189 4 = Q 189 4 ∧ Q' 192 = Q 192) := by
  have wl := lo.1
  have hb := wl.1
  have wn1 := wf.2.1
  have wn3 := wf.2.2.2.1
  have hwt := (lo.2 g hg.1 hg.2).1 hl
  have hw0 := wl.2.2.2.2.2.1 g hg.1 (by omega)
  have er := eA_r (N := N) (g := g) (h := N 102) (s := N (125 + g)) (by omega)
  generalize hB : eA N g (N 102) (N (125 + g)) - N 102 = B
  generalize hX : N (133 + g) = X at *
  have em : max 0 (min n 60) = n := by omega
  generalize hQ0 : setR Q 189 (updf (Q 189) 5 n) = Q0
  have q0 : ∀ a, a ≠ 189 → Q0 a = Q a := fun a ha => by rw [← hQ0, setR_ne ha]
  have q05 : Q0 189 5 = n := by rw [← hQ0, setR_same, updf_same rfl]
  have cw0 : CW N g n n Q0 := ⟨⟨by rw [q0 186 (by omega)]; exact fo.1, by rw [q0 187 (by omega), q0 188 (by omega)]; exact fo.2⟩, q05, fun i h1 h2 => by omega⟩
  obtain ⟨τ, l1, Q1, rfl, b1, b2'⟩ := loop_inv (f := fX10_keepFor_L21 S 189) (m := 1000) (s := (I (n - 1), mk Q0 w rf)) (fun k t => ∃ Q', t = (I (n - 1 - k), mk Q' w rf) ∧ k ≤ n ∧ WQ Q0 Q' ∧ CW N g n (n - k) Q') (fun r => ∃ Q', r = mk Q' w rf ∧ WQ Q0 Q' ∧ CW N g n 0 Q') n.toNat (by omega) ⟨Q0, by simp, by omega, fun a h1 h2 => rfl, by simpa using cw0⟩ (by
      intro k t hk ⟨Q', ht, c1, c2, c3⟩
      subst ht
      left
      have h5 : ¬ (n - 1 - (k : Int) < 0) := by omega
      have ek : n - 1 - (k : Int) + 1 = n - k := by omega
      have cp1 : CP 67 Q' N := CP_q cp (fun a h1 h2 => by rw [c2 a (by omega) (by omega), q0 a (by omega)])
      have cl1 : CL 104 Q' N := CL_q cl (fun a h1 h2 => by rw [c2 a (by omega) (by omega), q0 a (by omega)])
      obtain ⟨Q2, e1, e2, e3⟩ := C_weighHour (S := S) (w := w) (i := n - 1 - k) hS hr wf wl cp1 cl1 (by rw [ek]; exact c3) hg hn hn2 (by omega)
      refine ⟨(I (n - 1 - ((k + 1 : Nat) : Int)), mk Q2 w rf), ?_, Q2, rfl, by omega, fun a h1 h2 => by rw [e3 a h1 h2, c2 a h1 h2], ?_⟩
      · have e4 : n - 1 - (k : Int) + -1 = n - 1 - ((k + 1 : Nat) : Int) := by omega
        simp (disch := first | assumption | omega) only [fX10_keepFor_L21, I_lit, orb_I, I_add, I_sub, I_mul, I_neg, nm_eq, bd0_s, bd2_s, un2_eq, un3_eq, un4_eq, un5_eq, un6_eq, cs2_l, cs2_r, mk_1, mk_2, wI_mk, wL_mk, wR_mk, setR_same, setR_setR, rZ_0, rZ_1, rZ_b2, it_b2, it_nb2, it_b21, it_nb21, I_lt, I_le, I_eq, I_div, castI, if_true, if_false, Classical.not_not, h5, e1, e4]
      · have e4 : n - ((k + 1 : Nat) : Int) = n - 1 - k := by omega
        rw [e4]; exact e2) (by
      intro t ⟨Q', ht, c1, c2, c3⟩
      subst ht
      have h5 : (n - 1 - (n.toNat : Int) < 0) := by omega
      have e3 : n - (n.toNat : Int) = 0 := by omega
      rw [e3] at c3
      refine ⟨mk Q' w rf, ?_, Q', rfl, c2, c3⟩
      simp (disch := first | assumption | omega) only [fX10_keepFor_L21, I_lit, orb_I, I_add, I_sub, I_mul, I_neg, nm_eq, bd0_s, bd2_s, un2_eq, un3_eq, un4_eq, un5_eq, un6_eq, cs2_l, cs2_r, mk_1, mk_2, wI_mk, wL_mk, wR_mk, setR_same, setR_setR, rZ_0, rZ_1, rZ_b2, it_b2, it_nb2, it_b21, it_nb21, I_lt, I_le, I_eq, I_div, castI, if_true, if_false, Classical.not_not, h5])
  have q1 : ∀ a, a ≠ 189 → a ≠ 190 → a ≠ 191 → Q1 a = Q a := fun a h1 h2 h3 => by rw [b1 a h2 h3, q0 a h1]
  have q14 : Q1 189 4 = Q 189 4 := by rw [b1 189 (by omega) (by omega), ← hQ0, setR_same, updf_ne (by omega)]
  have cp1 : CP 67 Q1 N := CP_q cp (fun a h1 h2 => q1 a (by omega) (by omega) (by omega))
  have cl1 : CL 104 Q1 N := CL_q cl (fun a h1 h2 => q1 a (by omega) (by omega) (by omega))
  obtain ⟨e, f1, f2⟩ := C_endNow (S := S) (w := w) hS hr wf wl cl1 b2'.1 hg
  have ee := eA_eq f2
  have c102 := cl1.1.1
  obtain ⟨-, -, -, d4, -⟩ := cl1.2.2 g hg.1 hg.2
  have fo1 := b2'.1.1
  have eB : e - N 102 = B := by omega
  have fw := C_fewest (S := S) (w := w) (i := B) (x := X) hS hr wf cp1 b2' hn (by omega) (by omega) (by omega)
  rw [ii_t hwt] at fw
  have fr := Fa_r (N := N) (g := g) (K := n) (i := B) (w := X)
  have il := isLife104
  rw [hX] at d4
  by_cases q : Fa N g n B X < 1000
  · obtain ⟨Q2, g1, g2, g3, g4⟩ := C_noteWakings (S := S) (w := w) (i := B) (x := X) hS hr wf wl cp1 cl1 b2' hn hn2 (by omega) (by omega)
    refine ⟨Q2, ?_, ?_, fun _ => ⟨g2, g3⟩, fun h => absurd q h⟩
    · rw [ii_t q]
      simp (disch := first | assumption | omega) only [fX10_keepFor, I_lit, orb_I, I_add, I_sub, I_mul, I_neg, nm_eq, bd0_s, bd2_s, un2_eq, un3_eq, un4_eq, un5_eq, un6_eq, cs2_l, cs2_r, mk_1, mk_2, wI_mk, wL_mk, wR_mk, setR_same, setR_setR, rZ_0, rZ_1, rZ_b2, it_b2, it_nb2, it_b21, it_nb21, I_lt, I_le, I_eq, I_div, castI, if_true, if_false, Classical.not_not, mnI_I, mxI_I, em, hQ0, q05, l1, gC189_0, f1, fX1_start, gC186_1, c102, eB, fX1_waited, gL9 (l := 104), fo1, ldL6 (l := 104), d4, fw, q, g1, g2]
    · intro a ha
      rw [g4 a (by omega) (by omega), q1 a (by omega) (by omega) (by omega)]
  · refine ⟨Q1, ?_, fun a ha => q1 a (by omega) (by omega) (by omega), fun h => absurd h q, fun _ => ⟨q14, q1 192 (by omega) (by omega) (by omega)⟩⟩
    rw [ii_f q]
    simp (disch := first | assumption | omega) only [fX10_keepFor, I_lit, orb_I, I_add, I_sub, I_mul, I_neg, nm_eq, bd0_s, bd2_s, un2_eq, un3_eq, un4_eq, un5_eq, un6_eq, cs2_l, cs2_r, mk_1, mk_2, wI_mk, wL_mk, wR_mk, setR_same, setR_setR, rZ_0, rZ_1, rZ_b2, it_b2, it_nb2, it_b21, it_nb21, I_lt, I_le, I_eq, I_div, castI, if_true, if_false, Classical.not_not, mnI_I, mxI_I, em, hQ0, q05, l1, gC189_0, f1, fX1_start, gC186_1, c102, eB, fX1_waited, gL9 (l := 104), fo1, ldL6 (l := 104), d4, fw, q]
theorem INV_wak {Q Q' : Nat → Int → Int} {w : Nat → Nat → Int64} {rf : Nat → Nat → Option Nat} {R R' : Nat → Int → Int} {v : Nat → Nat → Int64} (inv : INV Q w rf R v) (hq : ∀ a, a < 186 ∨ 192 < a → Q' a = Q a) (hm : ∀ a, KM a → a ≠ 77 → R' a = R a) (h64 : ∀ j, K64 j → j ≠ 28 → R' 64 j = R 64 j) (wk' : wakR (Q' 189 4) (Q' 192) (R' 64 28) (R' 77)) : INV Q' w rf R' v := by
  obtain ⟨ta, pa, ⟨lo, cl⟩, ur, fa, wk, ro, se, im, sw⟩ := inv
  unfold KM at hm
  unfold K64 at h64
  refine ⟨?_, ?_, ⟨?_, ?_⟩, ?_, ?_, wk', ?_, ?_, ?_, sw⟩
  · rw [hq 66 (by omega), hq 65 (by omega), h64 2 (by omega) (by omega), hm 65 (by omega) (by omega)]; exact ta
  · rw [hm 66 (by omega) (by omega)]
    exact ⟨pa.1, CP_q pa.2.1 (fun a h1 h2 => hq a (by omega)), pa.2.2⟩
  · rw [hm 66 (by omega) (by omega)]; exact lo
  · rw [hm 66 (by omega) (by omega)]; exact CL_q cl (fun a h1 h2 => hq a (by omega))
  · rw [h64 23 (by omega) (by omega), hm 66 (by omega) (by omega), hm 69 (by omega) (by omega)]
    exact UR_q ur pa.1 (fun a h => hq a (by omega)) rfl (AgP_refl _)
  · rw [hq 64 (by omega), h64 10 (by omega) (by omega)]; exact fa
  · rw [hq 193 (by omega), h64 37 (by omega) (by omega), hm 80 (by omega) (by omega)]; exact ro
  · rw [hq 199 (by omega), hq 200 (by omega), hq 197 (by omega), hm 66 (by omega) (by omega)]; exact se
  · rw [hm 68 (by omega) (by omega), hm 74 (by omega) (by omega)]
    exact imgR_q im (fun a h => hq a (by omega)) (fun a h => rfl) rfl rfl
theorem op_watch {S S' : Nat → Nat × Nat} (hS : SCok S) (hS' : SMok S') (a1 a2 : Int32) : OpC1 (fun σ => fX12_watch S σ 64 a1 a2) (fun σ => fX13_watch S' σ 64 a1 a2) := by
  intro t σC σM ⟨Q, w, rf, R, v, rm, q1, q2, hr, hr', inv, tx⟩; subst q1; subst q2
  obtain ⟨g, rfl, hg⟩ := exI a1
  obtain ⟨n, rfl, hn⟩ := exI a2
  have inv0 := INV_th inv
  have r66 : th0 R 66 = R 66 := th0_ne (by omega)
  obtain ⟨ta, ⟨wf, cp, nam⟩, ⟨lo, cl⟩, -⟩ := inv
  have k1 := C_isRunning (S := S) (w := w) hS hr wf cp cl hg
  have m1 := M_isGlass (S := S') (w := v) (R := th0 R) hS' hr' inv0.2.1.1 hg
  have m2 := M_isLapsed (S := S') (w := v) (R := th0 R) (g := g) hS' hr'
  rw [r66] at m1 m2
  have hb := lo.1.1
  have wn1 := wf.2.1
  have k2 := C_isFrom (S := S) (σ := mk Q w rf) (v := n) (a := 1) (b := 60) hn (by omega) (by omega)
  have m3 := M_isIn (S := S') (σ := mk (th0 R) v rm) (v := n) (a := 1) (b := 60) hn (by omega) (by omega)
  have fin1 : ∀ (h1 : fX12_watch S (mk Q w rf) 64 (I g) (I n) = some (I (-1), mk Q w rf)) (h2 : fX13_watch S' (mk R v rm) 64 (I g) (I n) = some (I (-1), mk (th0 R) v rm)), ∃ r σC' σM', fX12_watch S (mk Q w rf) 64 (I g) (I n) = some (r, σC') ∧ fX13_watch S' (mk R v rm) 64 (I g) (I n) = some (r, σM') ∧ SimX t σC' σM' := fun h1 h2 => ⟨_, _, _, h1, h2, Q, w, rf, th0 R, v, rm, rfl, rfl, hr, hr', inv0, tx0 tx⟩
  by_cases h1 : 0 ≤ g ∧ g < R 66 1
  · rw [b2_t h1] at m1
    by_cases h2 : lapA (R 66) g
    · rw [b2_t h2] at m2
      rw [b2_f (fun h => h.2 h2)] at k1
      apply fin1
      · simp (disch := first | assumption | omega) only [fX12_watch, fX12_watch_b18, I_lit, orb_I, I_add, I_sub, I_mul, I_neg, nm_eq, bd0_s, bd2_s, un2_eq, un3_eq, un4_eq, un5_eq, un6_eq, cs2_l, cs2_r, mk_1, mk_2, wI_mk, wL_mk, wR_mk, setR_same, setR_setR, rZ_0, rZ_1, rZ_b2, it_b2, it_nb2, it_b21, it_nb21, I_lt, I_le, I_eq, I_div, castI, if_true, if_false, Classical.not_not, k1]
      · simp only [fX13_watch, fX13_watch_b31, th0_I]
        simp (disch := first | assumption | omega) only [I_lit, orb_I, I_add, I_sub, I_mul, I_neg, nm_eq, bd0_s, bd2_s, un2_eq, un3_eq, un4_eq, un5_eq, un6_eq, cs2_l, cs2_r, mk_1, mk_2, wI_mk, wL_mk, wR_mk, setR_same, setR_setR, rZ_0, rZ_1, rZ_b2, it_b2, it_nb2, it_b21, it_nb21, I_lt, I_le, I_eq, I_div, castI, if_true, if_false, Classical.not_not, m1, m2, Int.reduceEq, not_false_eq_true]
    · rw [b2_f h2] at m2
      rw [b2_t ⟨h1, h2⟩] at k1
      by_cases h3 : 1 ≤ n ∧ n ≤ 60
      · rw [b2_t h3] at k2 m3
        have hle := lo.1.2.2.2.1 g h1.1 (by omega)
        have hww := lo.1.2.2.2.2.2.1 g h1.1 (by omega)
        have hw2 := lo.2 g h1.1 h1.2
        have hw3 := hw2.1 h2
        have wn3 := wf.2.2.2.1
        generalize hK : min n (600 - R 66 102) = K
        have hKr : 0 ≤ K ∧ K ≤ 60 := by omega
        have hK2 : R 66 102 + K ≤ 600 := by omega
        obtain ⟨Q1, l1, l2, l3⟩ := C_look (S := S) (w := w) hS hr wf lo.1 cp cl h1
        have cl1 : CL 104 Q1 (R 66) := CL_q cl (fun a h1 h2 => l3 a (by omega))
        have cp1 : CP 67 Q1 (R 66) := CP_q cp (fun a h1 h2 => l3 a (by omega))
        obtain ⟨Q2, c1, c2, c3, c4⟩ := C_keepFor (S := S) (w := w) (n := K) hS hr wf lo cp1 cl1 l2 h1 h2 hKr hK2
        have c102 := cl1.1.1
        obtain ⟨A, d1, d2⟩ := M_layWatch (S := S') (w := v) (R := th0 R) (g := g) (K := K) hS' hr' (by rw [r66]; exact wf) (by rw [r66]; exact lo.1) (by rw [r66]; exact h1) hKr (by rw [r66]; exact hK2)
        rw [r66] at d2
        generalize hR1 : setR (th0 R) 76 A = R1 at d1
        have r1 : ∀ a, a ≠ 76 → R1 a = th0 R a := fun a ha => by rw [← hR1, setR_ne ha]
        have R1_66 : R1 66 = R 66 := by rw [r1 66 (by omega), r66]
        have R1_76 : R1 76 = A := by rw [← hR1, setR_same]
        have er := eA_r (N := R 66) (g := g) (h := R 66 102) (s := R 66 (125 + g)) (by omega)
        generalize hB : eA (R 66) g (R 66 102) (R 66 (125 + g)) - R 66 102 = B at *
        generalize hX : R 66 (133 + g) = X at *
        have mlst : fX13_least S' (mk (th0 R) v rm) (I n) (I (600 - R 66 102)) = some (I K) := by
          rw [M_least (by omega) (by omega), hK]
        obtain ⟨st, hst, hsA, hsr, hpre⟩ : ∃ st, stR2 (R 66) g K 0 st B X ∧ A (261 * 0 + st) = Gv (Fa (R 66) g K B X) ∧ (1 ≤ st ∧ st ≤ 259) ∧ (fX13_watch S' (mk R v rm) 64 (I g) (I n) = fX13_watch_b93 S' (mk R1 v rm) 64 (I g) (I K) (I st)) := by
          by_cases q : R 66 (125 + g) ≤ 0
          · have q0 : R 66 (125 + g) = 0 := by omega
            have eB0 : B = 0 := by
              rw [← hB, q0, eA_0 (by omega)]
              omega
            refine ⟨251 + X, Or.inl ⟨rfl, eB0, by omega⟩, ?_, by omega, ?_⟩
            · have e := (d2 0 (by omega) (by omega)).2 X (by omega) (by omega)
              rw [eB0, ← e]
              congr 1
              omega
            · simp only [fX13_watch, fX13_watch_b31, th0_I]
              simp (disch := first | assumption | omega) only [I_lit, orb_I, I_add, I_sub, I_mul, I_neg, nm_eq, bd0_s, bd2_s, un2_eq, un3_eq, un4_eq, un5_eq, un6_eq, cs2_l, cs2_r, mk_1, mk_2, wI_mk, wL_mk, wR_mk, setR_same, setR_setR, rZ_0, rZ_1, rZ_b2, it_b2, it_nb2, it_b21, it_nb21, I_lt, I_le, I_eq, I_div, castI, if_true, if_false, Classical.not_not, m1, m2, m3, Int.reduceEq, not_true, not_false_eq_true, gM14, ldM66, r66, mlst, d1, R1_66, q, hX]
          · have eX : X = 0 := (hw2.2) (by omega)
            have e10 : R 66 102 + 0 = R 66 102 := by omega
            refine ⟨R 66 (125 + g), Or.inr ⟨by omega, by rw [e10, hB], eX⟩, ?_, by omega, ?_⟩
            · have e := (d2 0 (by omega) (by omega)).1 (R 66 (125 + g)) (by omega) (by omega)
              rw [e10, hB] at e
              rw [eX, ← e]
            · simp only [fX13_watch, fX13_watch_b31, th0_I]
              simp (disch := first | assumption | omega) only [I_lit, orb_I, I_add, I_sub, I_mul, I_neg, nm_eq, bd0_s, bd2_s, un2_eq, un3_eq, un4_eq, un5_eq, un6_eq, cs2_l, cs2_r, mk_1, mk_2, wI_mk, wL_mk, wR_mk, setR_same, setR_setR, rZ_0, rZ_1, rZ_b2, it_b2, it_nb2, it_b21, it_nb21, I_lt, I_le, I_eq, I_div, castI, if_true, if_false, Classical.not_not, m1, m2, m3, Int.reduceEq, not_true, not_false_eq_true, gM14, ldM66, r66, mlst, d1, R1_66, q]
        have mka : fX13_wakesAt S' (mk R1 v rm) 64 (I 0) (I st) = some (I (Gv (Fa (R 66) g K B X))) := by
          rw [M_wakesAt hS' hr' (by omega), R1_76, hsA]
        have gr := Gv_r (N := R 66) (g := g) (K := K) (i := B) (w := X) hKr.2 (by omega)
        have cc : fX12_watch S (mk Q w rf) 64 (I g) (I n) = some (I (ii (Fa (R 66) g K B X < 1000) ((Pa (R 66) g K B X).length : Int) (-1)), mk Q2 w rf) := by
          simp (disch := first | assumption | omega) only [fX12_watch, fX12_watch_b18, I_lit, orb_I, I_add, I_sub, I_mul, I_neg, nm_eq, bd0_s, bd2_s, un2_eq, un3_eq, un4_eq, un5_eq, un6_eq, cs2_l, cs2_r, mk_1, mk_2, wI_mk, wL_mk, wR_mk, setR_same, setR_setR, rZ_0, rZ_1, rZ_b2, it_b2, it_nb2, it_b21, it_nb21, I_lt, I_le, I_eq, I_div, castI, if_true, if_false, Classical.not_not, k1, Int.reduceEq, k2, not_false_eq_true, gC64_7, l1, gC64_8, gC64_4, fX3_hoursOf, c102, mnI_I, hK, c1]
        have q2o : ∀ a, a < 186 ∨ 192 < a → Q2 a = Q a := fun a ha => by rw [c2 a ha, l3 a (by omega)]
        by_cases q : Fa (R 66) g K B X < 1000
        · have gq := gr.2.2.2 q
          obtain ⟨c31, c32⟩ := c3 q
          generalize hR2 : setR R1 64 (updf (R1 64) 28 0) = R2
          have r2 : ∀ a, a ≠ 64 → R2 a = R1 a := fun a ha => by rw [← hR2, setR_ne ha]
          obtain ⟨R3, e1, e2, e3, e4, e5⟩ := M_watchL (S := S') (w := v) (R := R2) (g := g) (K := K) (st := st) (i := B) (x := X) (x5 := I (Gv (Fa (R 66) g K B X))) hS' hr' (by rw [r2 66 (by omega), R1_66]; exact wf) (by rw [r2 66 (by omega), R1_66]; exact lo.1) (by rw [r2 66 (by omega), R1_66]; exact h1) hKr (by rw [r2 66 (by omega), R1_66]; exact hK2) (by rw [r2 66 (by omega), r2 76 (by omega), R1_66, R1_76]; exact d2) (by rw [r2 66 (by omega), R1_66]; exact hst) (by rw [r2 66 (by omega), R1_66]; exact q) (by rw [← hR2, setR_same, updf_same rfl])
          have R2_66 : R2 66 = R 66 := by rw [r2 66 (by omega), R1_66]
          rw [R2_66] at e2 e3
          have pf := Pa_F (N := R 66) (g := g) (K := K) hK2 (K - B).toNat B X (Nat.le_refl _) q
          have gv : Gv (Fa (R 66) g K B X) = Fa (R 66) g K B X := by unfold Gv; rw [ii_f (by omega)]
          rw [ii_t q, pf] at cc
          have lenr := Pl_len (N := R 66) (g := g) (K := K) (K - B).toNat B X
          have lenr' : (Pa (R 66) g K B X).length ≤ 60 := by unfold Pa; omega
          have mm : fX13_watch S' (mk R v rm) 64 (I g) (I n) = some (I (Fa (R 66) g K B X), mk R3 v rm) := by
            rw [hpre]
            simp (disch := first | assumption | omega) only [fX13_watch_b93, I_lit, orb_I, I_add, I_sub, I_mul, I_neg, nm_eq, bd0_s, bd2_s, un2_eq, un3_eq, un4_eq, un5_eq, un6_eq, cs2_l, cs2_r, mk_1, mk_2, wI_mk, wL_mk, wR_mk, setR_same, setR_setR, rZ_0, rZ_1, rZ_b2, it_b2, it_nb2, it_b21, it_nb21, I_lt, I_le, I_eq, I_div, castI, if_true, if_false, Classical.not_not, mka, gq, hR2, e1]
            rw [gv]
          have tex : texR t (R3 64 32) (R3 78) := by
            rw [e5 32 (by omega), e4 78 (by omega) (by omega), ← hR2, setR_same, updf_ne (by omega), setR_ne (by omega), r1 64 (by omega), r1 78 (by omega)]
            exact tx0 tx
          refine ⟨_, _, _, cc, mm, Q2, w, rf, R3, v, rm, rfl, rfl, hr, hr', INV_wak inv0 q2o ?_ ?_ ⟨?_, ?_, ?_⟩, tex⟩
          · intro a ha h77
            unfold KM at ha
            rw [e4 a (by omega) h77, r2 a (by omega), r1 a (by omega)]
          · intro j hj h28
            unfold K64 at hj
            rw [e5 j h28, ← hR2, setR_same, updf_ne h28, r1 64 (by omega)]
          · rw [c31, e2]
          · rw [e2]; omega
          · intro j h6 h7
            rw [e2] at h7
            obtain ⟨jn, hjn⟩ : ∃ jn : Nat, j = jn := ⟨j.toNat, by omega⟩
            subst hjn
            rw [c32 jn (by omega), e3 jn (by omega)]
        · have gq : ¬ (Gv (Fa (R 66) g K B X) < 100000) := fun h => q (gr.2.2.1 h)
          obtain ⟨c41, c42⟩ := c4 q
          rw [ii_f q] at cc
          have mm : fX13_watch S' (mk R v rm) 64 (I g) (I n) = some (I (-1), mk R1 v rm) := by
            rw [hpre]
            simp (disch := first | assumption | omega) only [fX13_watch_b93, I_lit, orb_I, I_add, I_sub, I_mul, I_neg, nm_eq, bd0_s, bd2_s, un2_eq, un3_eq, un4_eq, un5_eq, un6_eq, cs2_l, cs2_r, mk_1, mk_2, wI_mk, wL_mk, wR_mk, setR_same, setR_setR, rZ_0, rZ_1, rZ_b2, it_b2, it_nb2, it_b21, it_nb21, I_lt, I_le, I_eq, I_div, castI, if_true, if_false, Classical.not_not, mka, gq]
          have wk0 := inv0.2.2.2.2.2.1
          have tex : texR t (R1 64 32) (R1 78) := by
            rw [r1 64 (by omega), r1 78 (by omega)]
            exact tx0 tx
          refine ⟨_, _, _, cc, mm, Q2, w, rf, R1, v, rm, rfl, rfl, hr, hr', INV_wak inv0 q2o ?_ ?_ ?_, tex⟩
          · intro a ha h77
            unfold KM at ha
            exact r1 a (by omega)
          · intro j hj h28
            rw [r1 64 (by omega)]
          · rw [c41, c42, r1 64 (by omega), r1 77 (by omega), l3 189 (by omega), l3 192 (by omega)]; exact wk0
      · rw [b2_f h3] at k2 m3
        apply fin1
        · simp (disch := first | assumption | omega) only [fX12_watch, fX12_watch_b18, I_lit, orb_I, I_add, I_sub, I_mul, I_neg, nm_eq, bd0_s, bd2_s, un2_eq, un3_eq, un4_eq, un5_eq, un6_eq, cs2_l, cs2_r, mk_1, mk_2, wI_mk, wL_mk, wR_mk, setR_same, setR_setR, rZ_0, rZ_1, rZ_b2, it_b2, it_nb2, it_b21, it_nb21, I_lt, I_le, I_eq, I_div, castI, if_true, if_false, Classical.not_not, k1, Int.reduceEq, k2, not_true]
        · simp only [fX13_watch, fX13_watch_b31, th0_I]
          simp (disch := first | assumption | omega) only [I_lit, orb_I, I_add, I_sub, I_mul, I_neg, nm_eq, bd0_s, bd2_s, un2_eq, un3_eq, un4_eq, un5_eq, un6_eq, cs2_l, cs2_r, mk_1, mk_2, wI_mk, wL_mk, wR_mk, setR_same, setR_setR, rZ_0, rZ_1, rZ_b2, it_b2, it_nb2, it_b21, it_nb21, I_lt, I_le, I_eq, I_div, castI, if_true, if_false, Classical.not_not, m1, m2, m3, Int.reduceEq, not_true]
  · rw [b2_f h1] at m1
    rw [b2_f (fun h => h1 h.1)] at k1
    apply fin1
    · simp (disch := first | assumption | omega) only [fX12_watch, fX12_watch_b18, I_lit, orb_I, I_add, I_sub, I_mul, I_neg, nm_eq, bd0_s, bd2_s, un2_eq, un3_eq, un4_eq, un5_eq, un6_eq, cs2_l, cs2_r, mk_1, mk_2, wI_mk, wL_mk, wR_mk, setR_same, setR_setR, rZ_0, rZ_1, rZ_b2, it_b2, it_nb2, it_b21, it_nb21, I_lt, I_le, I_eq, I_div, castI, if_true, if_false, Classical.not_not, k1]
    · simp only [fX13_watch, fX13_watch_b31, th0_I]
      simp (disch := first | assumption | omega) only [I_lit, orb_I, I_add, I_sub, I_mul, I_neg, nm_eq, bd0_s, bd2_s, un2_eq, un3_eq, un4_eq, un5_eq, un6_eq, cs2_l, cs2_r, mk_1, mk_2, wI_mk, wL_mk, wR_mk, setR_same, setR_setR, rZ_0, rZ_1, rZ_b2, it_b2, it_nb2, it_b21, it_nb21, I_lt, I_le, I_eq, I_div, castI, if_true, if_false, Classical.not_not, m1]
