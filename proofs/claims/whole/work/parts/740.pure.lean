def CW (N : Int → Int) (g K i0 : Int) (Q : Nat → Int → Int) : Prop := FO N g Q ∧ Q 189 5 = K ∧ ∀ i, i0 ≤ i → i < K → Q 191 i = aT N g i ∧ ∀ w, 0 ≤ w → w < N 3 → Q 190 (i * 9 + w) = Fa N g K i w
theorem C_fewest {S : Nat → Nat × Nat} {Q : Nat → Int → Int} {w : Nat → Nat → Int64} {rf : Nat → Nat → Option Nat} {N : Int → Int} {g K i0 i x : Int} (hS : SCok S) (hr : RCok rf) (wf : WFP N) (cp : CP 67 Q N) (cw : CW N g K i0 Q) (hK : 0 ≤ K ∧ K ≤ 60) (h0 : 0 ≤ i0) (hi : i0 ≤ i ∧ i ≤ 600) (hx : 0 ≤ x ∧ x ≤ 1000) : fX10_fewestFrom S (mk Q w rf) 189 (I i) (I x) = some (I (ii (x < N 3) (Fa N g K i x) 1000)) := by
  have wn3 := wf.2.2.2.1
  have d3 : Q 67 16 = N 3 := cp.1.2.2.2.1
  have h1 : ¬ (x < 0) := by omega
  have c5 := cw.2.1
  by_cases q : x < N 3
  · rw [ii_t q]
    by_cases q2 : K ≤ i
    · rw [Fa_end q2]
      simp (disch := first | assumption | omega) only [fX10_fewestFrom, fX10_fewestFrom_b15, fX10_fewestFrom_b42, fX1_grace, I_lit, orb_I, I_add, I_sub, I_mul, I_neg, nm_eq, bd0_s, bd2_s, un2_eq, un3_eq, un4_eq, un5_eq, un6_eq, cs2_l, cs2_r, mk_1, mk_2, wI_mk, wL_mk, wR_mk, setR_same, setR_setR, rZ_0, rZ_1, rZ_b2, it_b2, it_nb2, it_b21, it_nb21, I_lt, I_le, I_eq, I_div, castI, if_true, if_false, Classical.not_not, h1, gC189_0, gC186_0, d3, q, c5, q2]
    · have e := (cw.2.2 i hi.1 (by omega)).2 x hx.1 q
      simp (disch := first | assumption | omega) only [fX10_fewestFrom, fX10_fewestFrom_b15, fX10_fewestFrom_b42, fX1_grace, I_lit, orb_I, I_add, I_sub, I_mul, I_neg, nm_eq, bd0_s, bd2_s, un2_eq, un3_eq, un4_eq, un5_eq, un6_eq, cs2_l, cs2_r, mk_1, mk_2, wI_mk, wL_mk, wR_mk, setR_same, setR_setR, rZ_0, rZ_1, rZ_b2, it_b2, it_nb2, it_b21, it_nb21, I_lt, I_le, I_eq, I_div, castI, if_true, if_false, Classical.not_not, h1, gC189_0, gC186_0, d3, q, c5, q2, gC189_1, ldC190, e]
  · rw [ii_f q]
    simp (disch := first | assumption | omega) only [fX10_fewestFrom, fX10_fewestFrom_b15, fX10_fewestFrom_b42, fX1_grace, I_lit, orb_I, I_add, I_sub, I_mul, I_neg, nm_eq, bd0_s, bd2_s, un2_eq, un3_eq, un4_eq, un5_eq, un6_eq, cs2_l, cs2_r, mk_1, mk_2, wI_mk, wL_mk, wR_mk, setR_same, setR_setR, rZ_0, rZ_1, rZ_b2, it_b2, it_nb2, it_b21, it_nb21, I_lt, I_le, I_eq, I_div, castI, if_true, if_false, Classical.not_not, h1, gC189_0, gC186_0, d3, q]
theorem C_cost {S : Nat → Nat × Nat} {Q : Nat → Int → Int} {w : Nat → Nat → Int64} {rf : Nat → Nat → Option Nat} {N : Int → Int} {g K i0 i : Int} (hS : SCok S) (hr : RCok rf) (wf : WFP N) (wl : WFL N) (cp : CP 67 Q N) (cl : CL 104 Q N) (cw : CW N g K i0 Q) (hK : 0 ≤ K ∧ K ≤ 60) (hK2 : N 102 + K ≤ 600) (hi : 0 ≤ i ∧ i < K) (h0 : 0 ≤ i0 ∧ i0 ≤ i + 1) (ha : Q 191 i = aT N g i) : fX10_costOfWaking S (mk Q w rf) 189 (I i) = some (I (ii (canW N g (N 102 + i)) (1 + Fa N g K (aT N g i) 0) 1000)) := by
  have hb := wl.1
  have wn3 := wf.2.2.2.1
  have ar := aT_r (N := N) (g := g) (i := i) (by omega)
  have c102 := cl.1.1
  obtain ⟨-, -, hb3, -⟩ := C_hasB (S := S) (w := w) (h := N 102 + i) hS hr wl cw.1 (by omega)
  have hf := C_fewest (S := S) (w := w) (i := aT N g i) (x := 0) hS hr wf cp cw hK h0.1 (by omega) (by omega)
  rw [ii_t (by omega : (0 : Int) < N 3)] at hf
  have hfr := Fa_r (N := N) (g := g) (K := K) (i := aT N g i) (w := 0)
  simp (disch := first | assumption | omega) only [fX10_costOfWaking, fX10_costOfWaking_b42, fX1_start, I_lit, orb_I, I_add, I_sub, I_mul, I_neg, nm_eq, bd0_s, bd2_s, un2_eq, un3_eq, un4_eq, un5_eq, un6_eq, cs2_l, cs2_r, mk_1, mk_2, wI_mk, wL_mk, wR_mk, setR_same, setR_setR, rZ_0, rZ_1, rZ_b2, it_b2, it_nb2, it_b21, it_nb21, I_lt, I_le, I_eq, I_div, castI, if_true, if_false, Classical.not_not, gC189_0, gC186_1, c102, hb3, gC189_2, ldC191, ha, hf]
  unfold canW
  by_cases q : N 4 ≤ fdA N (N (56 + g)) (N 102 + i) ∨ N 4 ≤ fdA N (N (60 + g)) (N 102 + i)
  · rw [ii_t q, if_pos q]
  · rw [ii_f q, if_neg q]
def WQ (Q Q' : Nat → Int → Int) : Prop := (∀ a, a ≠ 190 → a ≠ 191 → Q' a = Q a)
theorem C_weighHour {S : Nat → Nat × Nat} {Q : Nat → Int → Int} {w : Nat → Nat → Int64} {rf : Nat → Nat → Option Nat} {N : Int → Int} {g K i : Int} (hS : SCok S) (hr : RCok rf) (wf : WFP N) (wl : WFL N) (cp : CP 67 Q N) (cl : CL 104 Q N) (cw : CW N g K (i + 1) Q) (hg : 0 ≤ g ∧ g < N 1) (hK : 0 ≤ K ∧ K ≤ 60) (hK2 : N 102 + K ≤ 600) (hi : 0 ≤ i ∧ i < K) : ∃ Q', fX10_weighHour S (mk Q w rf) 189 (I i) = some (mk Q' w rf) ∧ CW N g K i Q' ∧ WQ Q Q' := by
  have hb := wl.1
  have wn1 := wf.2.1
  have wn3 := wf.2.2.2.1
  have hgr := wf.2.2.2.2.2.2.2.2.2.2.2.2.2.2.2.1 g hg.1 (by omega)
  obtain ⟨e, e1, e2⟩ := C_endFrom (S := S) (w := w) (h0 := N 102 + i + 1) (s := N (64 + g)) hS hr wl cw.1 (by omega) (by omega) hgr
  have ee := eA_eq e2
  have ea : e - N 102 = aT N g i := by unfold aT; omega
  have ar := aT_r (N := N) (g := g) (i := i) (by omega)
  have c102 := cl.1.1
  have fo1 := cw.1.1
  generalize hQ1 : setR Q 191 (updf (Q 191) i (aT N g i)) = Q1
  have q1 : ∀ a, a ≠ 191 → Q1 a = Q a := fun a ha => by rw [← hQ1, setR_ne ha]
  have q191 : Q1 191 i = aT N g i := by rw [← hQ1, setR_same, updf_same rfl]
  have cw1 : CW N g K (i + 1) Q1 := by
    refine ⟨⟨by rw [q1 186 (by omega)]; exact fo1, by rw [q1 187 (by omega), q1 188 (by omega)]; exact cw.1.2⟩, by rw [q1 189 (by omega)]; exact cw.2.1, fun j h1 h2 => ?_⟩
    rw [q1 190 (by omega), ← hQ1, setR_same, updf_ne (by omega)]
    exact cw.2.2 j h1 h2
  have cp1 : CP 67 Q1 N := CP_q cp (fun a h1 h2 => q1 a (by omega))
  have cl1 : CL 104 Q1 N := CL_q cl (fun a h1 h2 => q1 a (by omega))
  obtain ⟨τ, h3, Q', rfl, b1, b2, b3⟩ := loop_inv (f := fX10_weighHour_L43 S 189 (I i) (I (N 102 + i))) (m := 1000) (s := (I 0, mk Q1 w rf)) (fun k s => ∃ Q', s = (I k, mk Q' w rf) ∧ (∀ a, a ≠ 190 → Q' a = Q1 a) ∧ CW N g K (i + 1) Q' ∧ ∀ x : Int, 0 ≤ x → x < k → Q' 190 (i * 9 + x) = Fa N g K i x) (fun r => ∃ Q', r = mk Q' w rf ∧ (∀ a, a ≠ 190 → Q' a = Q1 a) ∧ CW N g K (i + 1) Q' ∧ ∀ x, 0 ≤ x → x < N 3 → Q' 190 (i * 9 + x) = Fa N g K i x) (N 3).toNat (by omega) ⟨Q1, rfl, fun a h => rfl, cw1, fun x h1 h2 => by omega⟩ (by
      intro k s hk ⟨Q', hs, b1, b2, b3⟩
      subst hs
      left
      have h5 : ¬ (N 3 ≤ (k : Int)) := by omega
      have cp2 : CP 67 Q' N := CP_q cp1 (fun a h1 h2 => b1 a (by omega))
      have cl2 : CL 104 Q' N := CL_q cl1 (fun a h1 h2 => b1 a (by omega))
      have d3 : Q' 67 16 = N 3 := cp2.1.2.2.2.1
      have a191 : Q' 191 i = aT N g i := by rw [b1 191 (by omega)]; exact q191
      have f0 := C_fewest (S := S) (w := w) (i := aT N g i) (x := 0) hS hr wf cp2 b2 hK (by omega) (by omega) (by omega)
      rw [ii_t (by omega : (0 : Int) < N 3)] at f0
      have f1 := C_fewest (S := S) (w := w) (i := i + 1) (x := (k : Int) + 1) hS hr wf cp2 b2 hK (by omega) (by omega) (by omega)
      have fc := C_cost (S := S) (w := w) (i := i) hS hr wf wl cp2 cl2 b2 hK hK2 hi (by omega) a191
      have sm := C_some (S := S) (w := w) (h := N 102 + i) hS hr wl b2.1 (by omega)
      have r1 := Fa_r (N := N) (g := g) (K := K) (i := aT N g i) (w := 0)
      have r2 := Fa_r (N := N) (g := g) (K := K) (i := i + 1) (w := (k : Int) + 1)
      have e9 := Fa_eq (N := N) (g := g) (w := (k : Int)) hK2 hi.2
      have rc : 0 ≤ ii (canW N g (N 102 + i)) (1 + Fa N g K (aT N g i) 0) 1000 ∧ ii (canW N g (N 102 + i)) (1 + Fa N g K (aT N g i) 0) 1000 ≤ 1001 := ii_r (by omega) (by omega)
      have rw2 : 0 ≤ ii ((k : Int) + 1 < N 3) (Fa N g K (i + 1) ((k : Int) + 1)) 1000 ∧ ii ((k : Int) + 1 < N 3) (Fa N g K (i + 1) ((k : Int) + 1)) 1000 ≤ 1000 := ii_r (by omega) (by omega)
      generalize hQ3 : setR Q' 190 (updf (Q' 190) (i * 9 + k) (Fa N g K i k)) = Q3
      refine ⟨(I ((k + 1 : Nat) : Int), mk Q3 w rf), ?_, Q3, rfl, ?_, ?_, ?_⟩
      · by_cases q : someW N g (N 102 + i)
        · rw [ii_t q] at e9
          rw [b2_t q] at sm
          rw [e9] at hQ3
          simp (disch := first | assumption | omega) only [fX10_weighHour_L43, fX10_weighHour_b98, fX1_grace, I_lit, orb_I, I_add, I_sub, I_mul, I_neg, nm_eq, bd0_s, bd2_s, un2_eq, un3_eq, un4_eq, un5_eq, un6_eq, cs2_l, cs2_r, mk_1, mk_2, wI_mk, wL_mk, wR_mk, setR_same, setR_setR, rZ_0, rZ_1, rZ_b2, it_b2, it_nb2, it_b21, it_nb21, I_lt, I_le, I_eq, I_div, castI, if_true, if_false, Classical.not_not, gC189_0, gC186_0, d3, h5, gC189_2, ldC191, a191, f0, sm, Int.reduceEq, not_false_eq_true, gC189_1, stC190, hQ3]
          rfl
        · rw [ii_f q] at e9
          rw [b2_f q] at sm
          rw [e9] at hQ3
          simp (disch := first | assumption | omega) only [fX10_weighHour_L43, fX10_weighHour_b98, fX1_grace, I_lit, orb_I, I_add, I_sub, I_mul, I_neg, nm_eq, bd0_s, bd2_s, un2_eq, un3_eq, un4_eq, un5_eq, un6_eq, cs2_l, cs2_r, mk_1, mk_2, wI_mk, wL_mk, wR_mk, setR_same, setR_setR, rZ_0, rZ_1, rZ_b2, it_b2, it_nb2, it_b21, it_nb21, I_lt, I_le, I_eq, I_div, castI, if_true, if_false, Classical.not_not, gC189_0, gC186_0, d3, h5, gC189_2, ldC191, a191, f0, sm, not_true, fc, f1, mnI_I, gC189_1, stC190, hQ3]
          rfl
      · intro a ha
        rw [← hQ3, setR_ne ha, b1 a ha]
      · refine ⟨⟨by rw [← hQ3, setR_ne (by omega)]; exact b2.1.1, by rw [← hQ3, setR_ne (by omega), setR_ne (by omega)]; exact b2.1.2⟩, by rw [← hQ3, setR_ne (by omega)]; exact b2.2.1, fun j h1 h2 => ?_⟩
        rw [← hQ3, setR_ne (by omega)]
        refine ⟨(b2.2.2 j h1 h2).1, fun x h6 h7 => ?_⟩
        rw [setR_same, updf_ne (by omega)]
        exact (b2.2.2 j h1 h2).2 x h6 h7
      · intro x h6 h7
        rw [← hQ3, setR_same]
        by_cases ex : x = k
        · rw [updf_same (by omega), ex]
        · rw [updf_ne (by omega)]; exact b3 x h6 (by omega)) (by
      intro s ⟨Q', hs, b1, b2, b3⟩
      subst hs
      have cp2 : CP 67 Q' N := CP_q cp1 (fun a h1 h2 => b1 a (by omega))
      have d3 : Q' 67 16 = N 3 := cp2.1.2.2.2.1
      have h5 : (N 3 ≤ ((N 3).toNat : Int)) := by omega
      refine ⟨mk Q' w rf, ?_, Q', rfl, b1, b2, fun x h6 h7 => b3 x h6 (by omega)⟩
      simp (disch := first | assumption | omega) only [fX10_weighHour_L43, fX1_grace, I_lit, orb_I, I_add, I_sub, I_mul, I_neg, nm_eq, bd0_s, bd2_s, un2_eq, un3_eq, un4_eq, un5_eq, un6_eq, cs2_l, cs2_r, mk_1, mk_2, wI_mk, wL_mk, wR_mk, setR_same, setR_setR, rZ_0, rZ_1, rZ_b2, it_b2, it_nb2, it_b21, it_nb21, I_lt, I_le, I_eq, I_div, castI, if_true, if_false, Classical.not_not, gC189_0, gC186_0, d3, h5])
  refine ⟨Q', ?_, ⟨b2.1, b2.2.1, fun j h1 h2 => ?_⟩, fun a h1 h2 => by rw [b1 a h1, q1 a h2]⟩
  · have cpl := CPl_of cp
    obtain ⟨-, -, cpg, -, -⟩ := cpl
    obtain ⟨f1, f2, f3, f4⟩ := cpg g hg.1 hg.2
    have ip67 := isPar67
    simp (disch := first | assumption | omega) only [fX10_weighHour, fX1_start, fX1_grains, I_lit, orb_I, I_add, I_sub, I_mul, I_neg, nm_eq, bd0_s, bd2_s, un2_eq, un3_eq, un4_eq, un5_eq, un6_eq, cs2_l, cs2_r, mk_1, mk_2, wI_mk, wL_mk, wR_mk, setR_same, setR_setR, rZ_0, rZ_1, rZ_b2, it_b2, it_nb2, it_b21, it_nb21, I_lt, I_le, I_eq, I_div, castI, if_true, if_false, Classical.not_not, gC189_0, gC186_1, c102, gC189_2, gC186_0, gP0_10, fo1, ldP10, f3, e1, stC191, ea, hQ1, h3]
  · by_cases ej : j = i
    · rw [ej]
      exact ⟨by rw [b1 191 (by omega)]; exact q191, b3⟩
    · exact b2.2.2 j (by omega) h2
theorem C_noteWakings {S : Nat → Nat × Nat} {Q : Nat → Int → Int} {w : Nat → Nat → Int64} {rf : Nat → Nat → Option Nat} {N : Int → Int} {g K i x : Int} (hS : SCok S) (hr : RCok rf) (wf : WFP N) (wl : WFL N) (cp : CP 67 Q N) (cl : CL 104 Q N) (cw : CW N g K 0 Q) (hK : 0 ≤ K ∧ K ≤ 60) (hK2 : N 102 + K ≤ 600) (hi : 0 ≤ i ∧ i ≤ 600) (hx : 0 ≤ x ∧ x < N 3) : ∃ Q', fX10_noteWakings S (mk Q w rf) 189 (I i) (I x) = some (mk Q' w rf) ∧ Q' 189 4 = (Pa N g K i x).length ∧ (∀ (j : Nat) (h : j < (Pa N g K i x).length), Q' 192 j = (Pa N g K i x)[j]) ∧ (∀ a, a ≠ 189 → a ≠ 192 → Q' a = Q a) := by
  have hb := wl.1
  have wn3 := wf.2.2.2.1
  generalize hQ0 : setR Q 189 (updf (Q 189) 4 0) = Q0
  have q0 : ∀ a, a ≠ 189 → Q0 a = Q a := fun a ha => by rw [← hQ0, setR_ne ha]
  have q04 : Q0 189 4 = 0 := by rw [← hQ0, setR_same, updf_same rfl]
  have q05 : Q0 189 5 = K := by rw [← hQ0, setR_same, updf_ne (by omega)]; exact cw.2.1
  have hlen := Pl_len (N := N) (g := g) (K := K) (K - i).toNat i x
  have hlen' : (Pa N g K i x).length ≤ 60 := by unfold Pa; omega
  obtain ⟨τ, h3, Q', rfl, b1, b2, b3⟩ := loop_inv (f := fX10_noteWakings_L10 S 189) (m := 1000) (s := (I i, I x, mk Q0 w rf)) (fun k s => ∃ Q' i' x' L, s = (I i', I x', mk Q' w rf) ∧ (∀ a, a ≠ 189 → a ≠ 192 → Q' a = Q a) ∧ Q' 189 5 = K ∧ (0 ≤ i' ∧ i' ≤ 600) ∧ (0 ≤ x' ∧ x' ≤ 9 + k) ∧ (K - i').toNat + k ≤ (K - i).toNat ∧ Q' 189 4 = (List.length L : Int) ∧ (∀ (j : Nat) (h : j < List.length L), Q' 192 j = L[j]) ∧ Pa N g K i x = L ++ Pa N g K i' x') (fun r => ∃ Q', r = mk Q' w rf ∧ (∀ a, a ≠ 189 → a ≠ 192 → Q' a = Q a) ∧ Q' 189 4 = (Pa N g K i x).length ∧ (∀ (j : Nat) (h : j < (Pa N g K i x).length), Q' 192 j = (Pa N g K i x)[j])) (K - i).toNat (by omega) ⟨Q0, i, x, [], rfl, fun a h1 h2 => q0 a h1, q05, hi, ⟨hx.1, by omega⟩, by omega, by rw [q04]; rfl, fun j h => absurd h (Nat.not_lt_zero j), rfl⟩ (by
      intro k s hk ⟨Q', i', x', L, hs, c1, c2, c3, c4, c5, c6, c7, c8⟩
      subst hs
      by_cases q0 : K ≤ i'
      · right
        rw [Pa_end q0, List.append_nil] at c8
        refine ⟨mk Q' w rf, ?_, Q', rfl, c1, by rw [c8]; exact c6, by rw [c8]; exact c7⟩
        simp (disch := first | assumption | omega) only [fX10_noteWakings_L10, I_lit, orb_I, I_add, I_sub, I_mul, I_neg, nm_eq, bd0_s, bd2_s, un2_eq, un3_eq, un4_eq, un5_eq, un6_eq, cs2_l, cs2_r, mk_1, mk_2, wI_mk, wL_mk, wR_mk, setR_same, setR_setR, rZ_0, rZ_1, rZ_b2, it_b2, it_nb2, it_b21, it_nb21, I_lt, I_le, I_eq, I_div, castI, if_true, if_false, Classical.not_not, c2, q0]
      · left
        have cp1 : CP 67 Q' N := CP_q cp (fun a h1 h2 => c1 a (by omega) (by omega))
        have cl1 : CL 104 Q' N := CL_q cl (fun a h1 h2 => c1 a (by omega) (by omega))
        have cw1 : CW N g K 0 Q' := ⟨⟨by rw [c1 186 (by omega) (by omega)]; exact cw.1.1, by rw [c1 187 (by omega) (by omega), c1 188 (by omega) (by omega)]; exact cw.1.2⟩, c2, by rw [c1 190 (by omega) (by omega), c1 191 (by omega) (by omega)]; exact cw.2.2⟩
        have c102 := cl1.1.1
        have a191 := (cw1.2.2 i' c3.1 (by omega)).1
        have ar := aT_r (N := N) (g := g) (i := i') (by omega)
        have sm := C_some (S := S) (w := w) (h := N 102 + i') hS hr wl cw1.1 (by omega)
        have f1 := C_fewest (S := S) (w := w) (i := i' + 1) (x := x' + 1) hS hr wf cp1 cw1 hK (by omega) (by omega) (by omega)
        have fc := C_cost (S := S) (w := w) (i := i') hS hr wf wl cp1 cl1 cw1 hK hK2 (by omega) (by omega) a191
        obtain ⟨-, -, -, hb4⟩ := C_hasB (S := S) (w := w) (h := N 102 + i') hS hr wl cw1.1 (by omega)
        have pe := Pa_eq (N := N) (g := g) (w := x') hK2 (by omega : i' < K)
        have em : max (i' + 1) (aT N g i') = aT N g i' := by omega
        have r1 := Fa_r (N := N) (g := g) (K := K) (i := aT N g i') (w := 0)
        have r2 := Fa_r (N := N) (g := g) (K := K) (i := i' + 1) (w := x' + 1)
        have rc : 0 ≤ ii (canW N g (N 102 + i')) (1 + Fa N g K (aT N g i') 0) 1000 ∧ ii (canW N g (N 102 + i')) (1 + Fa N g K (aT N g i') 0) 1000 ≤ 1001 := ii_r (by omega) (by omega)
        have rw2 : 0 ≤ ii (x' + 1 < N 3) (Fa N g K (i' + 1) (x' + 1)) 1000 ∧ ii (x' + 1 < N 3) (Fa N g K (i' + 1) (x' + 1)) 1000 ≤ 1000 := ii_r (by omega) (by omega)
        by_cases q1 : someW N g (N 102 + i')
        · rw [b2_t q1] at sm
          rw [ii_t q1] at pe
          refine ⟨(I (aT N g i'), I 0, mk Q' w rf), ?_, Q', aT N g i', 0, L, rfl, c1, c2, by omega, by omega, by omega, c6, c7, by rw [c8, pe]⟩
          simp (disch := first | assumption | omega) only [fX10_noteWakings_L10, fX10_noteWakings_b110, fX10_noteWakings_b123, fX10_noteWakings_b148, fX1_start, I_lit, orb_I, I_add, I_sub, I_mul, I_neg, nm_eq, bd0_s, bd2_s, un2_eq, un3_eq, un4_eq, un5_eq, un6_eq, cs2_l, cs2_r, mk_1, mk_2, wI_mk, wL_mk, wR_mk, setR_same, setR_setR, rZ_0, rZ_1, rZ_b2, it_b2, it_nb2, it_b21, it_nb21, I_lt, I_le, I_eq, I_div, castI, if_true, if_false, Classical.not_not, c2, q0, gC189_0, gC186_1, c102, sm, Int.reduceEq, not_false_eq_true, gC189_2, ldC191, a191, mxI_I, em]
        · rw [b2_f q1] at sm
          rw [ii_f q1] at pe
          by_cases q2 : wkA N g K i' x'
          · rw [ii_t q2] at pe
            have q2' : ¬ (ii (x' + 1 < N 3) (Fa N g K (i' + 1) (x' + 1)) 1000 ≤ ii (canW N g (N 102 + i')) (1 + Fa N g K (aT N g i') 0) 1000) := by
              have := q2.2
              unfold wtA at this
              rw [ii_t q2.1]
              omega
            have hll : L.length < 60 := by
              have h9 := congrArg List.length c8
              rw [List.length_append, pe] at h9
              simp only [List.length_cons] at h9
              omega
            generalize hQ3 : setR (setR Q' 192 (updf (Q' 192) L.length (wkV N g i'))) 189 (updf (Q' 189) 4 ((L.length : Int) + 1)) = Q3
            refine ⟨(I (aT N g i'), I 0, mk Q3 w rf), ?_, Q3, aT N g i', 0, L ++ [wkV N g i'], rfl, ?_, ?_, by omega, by omega, by omega, ?_, ?_, ?_⟩
            · have ev : 10 * (N 102 + i') + ii (N 4 ≤ fdA N (N (56 + g)) (N 102 + i')) 0 1 = wkV N g i' := rfl
              by_cases q3 : N 4 ≤ fdA N (N (56 + g)) (N 102 + i')
              · rw [b2_t q3] at hb4
                rw [ii_t q3] at ev
                simp (disch := first | assumption | omega) only [fX10_noteWakings_L10, fX10_noteWakings_b95, fX10_noteWakings_b110, fX10_noteWakings_b123, fX10_noteWakings_b148, fX1_start, I_lit, orb_I, I_add, I_sub, I_mul, I_neg, nm_eq, bd0_s, bd2_s, un2_eq, un3_eq, un4_eq, un5_eq, un6_eq, cs2_l, cs2_r, mk_1, mk_2, wI_mk, wL_mk, wR_mk, setR_same, setR_setR, rZ_0, rZ_1, rZ_b2, it_b2, it_nb2, it_b21, it_nb21, I_lt, I_le, I_eq, I_div, castI, if_true, if_false, Classical.not_not, c2, q0, gC189_0, gC186_1, c102, sm, not_true, f1, fc, q2', gC189_3, hb4, Int.reduceEq, c6, stC192, ev, setR_ne, hQ3, gC189_2, ldC191]
                rw [← hQ3, setR_ne (by omega), setR_ne (by omega), a191]
                simp (disch := first | assumption | omega) only [mxI_I, em]
              · rw [b2_f q3] at hb4
                rw [ii_f q3] at ev
                simp (disch := first | assumption | omega) only [fX10_noteWakings_L10, fX10_noteWakings_b95, fX10_noteWakings_b110, fX10_noteWakings_b123, fX10_noteWakings_b148, fX1_start, I_lit, orb_I, I_add, I_sub, I_mul, I_neg, nm_eq, bd0_s, bd2_s, un2_eq, un3_eq, un4_eq, un5_eq, un6_eq, cs2_l, cs2_r, mk_1, mk_2, wI_mk, wL_mk, wR_mk, setR_same, setR_setR, rZ_0, rZ_1, rZ_b2, it_b2, it_nb2, it_b21, it_nb21, I_lt, I_le, I_eq, I_div, castI, if_true, if_false, Classical.not_not, c2, q0, gC189_0, gC186_1, c102, sm, not_true, f1, fc, q2', gC189_3, hb4, Int.reduceEq, c6, stC192, ev, setR_ne, hQ3, gC189_2, ldC191]
                rw [← hQ3, setR_ne (by omega), setR_ne (by omega), a191]
                simp (disch := first | assumption | omega) only [mxI_I, em]
            · intro a h1 h2
              rw [← hQ3, setR_ne h1, setR_ne h2, c1 a h1 h2]
            · rw [← hQ3, setR_same, updf_ne (by omega)]; exact c2
            · rw [← hQ3, setR_same, updf_same rfl, List.length_append]
              simp
            · intro j hj
              rw [← hQ3, setR_ne (by omega), setR_same]
              by_cases ej : j = L.length
              · rw [updf_same (by omega)]
                simp [ej]
              · have hj2 : j < L.length := by
                  rw [List.length_append] at hj
                  simp at hj
                  omega
                rw [updf_ne (by omega), c7 j hj2, List.getElem_append_left hj2]
            · rw [c8, pe, List.append_assoc]
              rfl
          · rw [ii_f q2] at pe
            have q2' : (ii (x' + 1 < N 3) (Fa N g K (i' + 1) (x' + 1)) 1000 ≤ ii (canW N g (N 102 + i')) (1 + Fa N g K (aT N g i') 0) 1000) := by
              by_cases q4 : canW N g (N 102 + i')
              · have : ¬ (1 + Fa N g K (aT N g i') 0 < wtA N g K i' x') := fun h => q2 ⟨q4, h⟩
                unfold wtA at this
                rw [ii_t q4]
                omega
              · rw [ii_f q4]
                omega
            refine ⟨(I (i' + 1), I (x' + 1), mk Q' w rf), ?_, Q', i' + 1, x' + 1, L, rfl, c1, c2, by omega, by omega, by omega, c6, c7, by rw [c8, pe]⟩
            simp (disch := first | assumption | omega) only [fX10_noteWakings_L10, fX10_noteWakings_b110, fX10_noteWakings_b123, fX10_noteWakings_b148, fX1_start, I_lit, orb_I, I_add, I_sub, I_mul, I_neg, nm_eq, bd0_s, bd2_s, un2_eq, un3_eq, un4_eq, un5_eq, un6_eq, cs2_l, cs2_r, mk_1, mk_2, wI_mk, wL_mk, wR_mk, setR_same, setR_setR, rZ_0, rZ_1, rZ_b2, it_b2, it_nb2, it_b21, it_nb21, I_lt, I_le, I_eq, I_div, castI, if_true, if_false, Classical.not_not, c2, q0, gC189_0, gC186_1, c102, sm, not_true, f1, fc, q2']) (by
      intro s ⟨Q', i', x', L, hs, c1, c2, c3, c4, c5, c6, c7, c8⟩
      subst hs
      have q0 : K ≤ i' := by omega
      rw [Pa_end q0, List.append_nil] at c8
      refine ⟨mk Q' w rf, ?_, Q', rfl, c1, by rw [c8]; exact c6, by rw [c8]; exact c7⟩
      simp (disch := first | assumption | omega) only [fX10_noteWakings_L10, I_lit, orb_I, I_add, I_sub, I_mul, I_neg, nm_eq, bd0_s, bd2_s, un2_eq, un3_eq, un4_eq, un5_eq, un6_eq, cs2_l, cs2_r, mk_1, mk_2, wI_mk, wL_mk, wR_mk, setR_same, setR_setR, rZ_0, rZ_1, rZ_b2, it_b2, it_nb2, it_b21, it_nb21, I_lt, I_le, I_eq, I_div, castI, if_true, if_false, Classical.not_not, c2, q0])
  refine ⟨Q', ?_, b2, b3, b1⟩
  simp (disch := first | assumption | omega) only [fX10_noteWakings, I_lit, orb_I, I_add, I_sub, I_mul, I_neg, nm_eq, bd0_s, bd2_s, un2_eq, un3_eq, un4_eq, un5_eq, un6_eq, cs2_l, cs2_r, mk_1, mk_2, wI_mk, wL_mk, wR_mk, setR_same, setR_setR, rZ_0, rZ_1, rZ_b2, it_b2, it_nb2, it_b21, it_nb21, I_lt, I_le, I_eq, I_div, castI, if_true, if_false, Classical.not_not, hQ0, h3]
