theorem M_layWatch {S : Nat → Nat × Nat} {R : Nat → Int → Int} {w : Nat → Nat → Int64} {rf : Nat → Nat → Option Nat} {g K : Int} (hS : SMok S) (hr : RMok rf) (wf : WFP (R 66)) (wl : WFL (R 66)) (hg : 0 ≤ g ∧ g < R 66 1) (hK : 0 ≤ K ∧ K ≤ 60) (hK2 : R 66 102 + K ≤ 600) : ∃ A, fX13_layWatch S (mk R w rf) 64 (I g) (I K) = some (mk (setR R 76 A) w rf) ∧ MW (R 66) g K 0 A := by
  have hb := wl.1
  have wn1 := wf.2.1
  have hgr := wf.2.2.2.2.2.2.2.2.2.2.2.2.2.2.2.1 g hg.1 (by omega)
  have G0 : Gv 0 = 0 := by unfold Gv; rw [ii_f (by omega)]
  obtain ⟨τ, l1, A1, rfl, b1⟩ := loop_inv (f := fX13_layWatch_L13 S 64 (I g) (I K) (I (R 66 (64 + g)))) (m := 1000) (s := (I 0, mk R w rf)) (fun j t => ∃ A, t = (I j, mk (setR R 76 A) w rf) ∧ ∀ s : Int, 0 ≤ s → s < j → A (261 * K + s) = 0) (fun r => ∃ A, r = mk (setR R 76 A) w rf ∧ ∀ s : Int, 0 ≤ s → s ≤ 260 → A (261 * K + s) = 0) 261 (by omega) ⟨R 76, by rw [setR_id]; rfl, fun s h1 h2 => by omega⟩ (by
      intro j t hj ⟨A, ht, c2⟩
      subst ht
      left
      have h6 : ¬ (260 < (j : Int)) := by omega
      refine ⟨(I ((j + 1 : Nat) : Int), mk (setR R 76 (updf A (261 * K + j) 0)) w rf), ?_, _, rfl, ?_⟩
      · simp (disch := first | assumption | omega) only [fX13_layWatch_L13, I_lit, orb_I, I_add, I_sub, I_mul, I_neg, nm_eq, bd0_s, bd2_s, un2_eq, un3_eq, un4_eq, un5_eq, un6_eq, cs2_l, cs2_r, mk_1, mk_2, wI_mk, wL_mk, wR_mk, setR_same, setR_setR, rZ_0, rZ_1, rZ_b2, it_b2, it_nb2, it_b21, it_nb21, I_lt, I_le, I_eq, I_div, castI, if_true, if_false, Classical.not_not, h6, gM26, stM76]
        rfl
      · intro s h1 h2
        by_cases e : s = j
        · rw [e, updf_same rfl]
        · rw [updf_ne (by omega)]; exact c2 s h1 (by omega)) (by
      intro t ⟨A, ht, c2⟩
      subst ht
      have h6 : (260 : Int) < ((261 : Nat) : Int) := by omega
      refine ⟨mk (setR R 76 A) w rf, ?_, A, rfl, fun s h1 h2 => c2 s h1 (by omega)⟩
      simp (disch := first | assumption | omega) only [fX13_layWatch_L13, un2_eq, I_lit, I_lt, h6, if_true])
  have mw1 : MW (R 66) g K K A1 := by
    intro k h1 h2
    have ek : k = K := by omega
    subst ek
    refine ⟨fun s h3 h4 => ?_, fun x h3 h4 => ?_⟩
    · have := eA_r (N := R 66) (g := g) (s := s) hK2
      rw [b1 s (by omega) (by omega), Fa_end (by omega), G0]
    · have e : 261 * k + 251 + x = 261 * k + (251 + x) := by omega
      rw [e, b1 (251 + x) (by omega) (by omega), Fa_end (by omega), G0]
  obtain ⟨τ2, l2, A2, rfl, b2'⟩ := loop_inv (f := fX13_layWatch_L46 S 64 (I g) (I (R 66 (64 + g)))) (m := 1000) (s := (I (K - 1), mk (setR R 76 A1) w rf)) (fun j t => ∃ A, t = (I (K - 1 - j), mk (setR R 76 A) w rf) ∧ j ≤ K ∧ MW (R 66) g K (K - j) A) (fun r => ∃ A, r = mk (setR R 76 A) w rf ∧ MW (R 66) g K 0 A) K.toNat (by omega) ⟨A1, by simp, by omega, by simpa using mw1⟩ (by
      intro j t hj ⟨A, ht, c1, c2⟩
      subst ht
      left
      have ek : K - 1 - (j : Int) + 1 = K - j := by omega
      obtain ⟨A', e1, e2⟩ := M_layStep (S := S) (w := w) (R := setR R 76 A) (g := g) (K := K) (k := K - 1 - j) hS hr (by rw [setR_ne (by omega)]; exact wf) (by rw [setR_ne (by omega)]; exact wl) (by rw [setR_ne (by omega)]; exact hg) hK (by rw [setR_ne (by omega)]; exact hK2) (by omega) (by rw [setR_same, setR_ne (by omega), ek]; exact c2)
      rw [setR_ne (by omega), setR_setR] at e1
      rw [setR_ne (by omega)] at e2
      refine ⟨(I (K - 1 - ((j + 1 : Nat) : Int)), mk (setR R 76 A') w rf), ?_, A', rfl, by omega, ?_⟩
      · rw [e1]
        congr 4
        omega
      · have e3 : K - ((j + 1 : Nat) : Int) = K - 1 - j := by omega
        rw [e3]; exact e2) (by
      intro t ⟨A, ht, c1, c2⟩
      subst ht
      have h6 : K - 1 - (K.toNat : Int) < 0 := by omega
      have e3 : K - (K.toNat : Int) = 0 := by omega
      rw [e3] at c2
      refine ⟨mk (setR R 76 A) w rf, ?_, A, rfl, c2⟩
      simp (disch := first | assumption | omega) only [fX13_layWatch_L46, I_lit, orb_I, I_add, I_sub, I_mul, I_neg, nm_eq, bd0_s, bd2_s, un2_eq, un3_eq, un4_eq, un5_eq, un6_eq, cs2_l, cs2_r, mk_1, mk_2, wI_mk, wL_mk, wR_mk, setR_same, setR_setR, rZ_0, rZ_1, rZ_b2, it_b2, it_nb2, it_b21, it_nb21, I_lt, I_le, I_eq, I_div, castI, if_true, if_false, Classical.not_not, h6])
  refine ⟨A2, ?_, b2'⟩
  simp (disch := first | assumption | omega) only [fX13_layWatch, I_lit, orb_I, I_add, I_sub, I_mul, I_neg, nm_eq, bd0_s, bd2_s, un2_eq, un3_eq, un4_eq, un5_eq, un6_eq, cs2_l, cs2_r, mk_1, mk_2, wI_mk, wL_mk, wR_mk, setR_same, setR_setR, rZ_0, rZ_1, rZ_b2, it_b2, it_nb2, it_b21, it_nb21, I_lt, I_le, I_eq, I_div, castI, if_true, if_false, Classical.not_not, gM14, ldM66, l1, l2]
def stR2 (N : Int → Int) (g K k st i x : Int) : Prop := (st = 251 + x ∧ i = k ∧ (0 ≤ x ∧ x ≤ 8)) ∨ ((1 ≤ st ∧ st ≤ 250) ∧ i = eA N g (N 102 + k) st - N 102 ∧ x = 0)
theorem M_watchL {S : Nat → Nat × Nat} {R : Nat → Int → Int} {w : Nat → Nat → Int64} {rf : Nat → Nat → Option Nat} {g K st i x : Int} {x5 : Int32} (hS : SMok S) (hr : RMok rf) (wf : WFP (R 66)) (wl : WFL (R 66)) (hg : 0 ≤ g ∧ g < R 66 1) (hK : 0 ≤ K ∧ K ≤ 60) (hK2 : R 66 102 + K ≤ 600) (mw : MW (R 66) g K 0 (R 76)) (hst : stR2 (R 66) g K 0 st i x) (hfin : Fa (R 66) g K i x < 1000) (h28 : R 64 28 = 0) : ∃ R', loopN (fX13_watch_L122 S 64 (I g) (I K) x5) 1000 (I st, I 0, mk R w rf) = some (mk R' w rf) ∧ R' 64 28 = (Pa (R 66) g K i x).length ∧ (∀ (j : Nat) (h : j < (Pa (R 66) g K i x).length), R' 77 j = (Pa (R 66) g K i x)[j]) ∧ (∀ a, a ≠ 64 → a ≠ 77 → R' a = R a) ∧ (∀ j, j ≠ 28 → R' 64 j = R 64 j) := by
  have hb := wl.1
  have wn1 := wf.2.1
  have wn3 := wf.2.2.2.1
  have hgr := wf.2.2.2.2.2.2.2.2.2.2.2.2.2.2.2.1 g hg.1 (by omega)
  have hgr1 := (wf.2.2.2.2.2.2.2.2.2.2.2.2.2.2.1 g hg.1 hg.2).2.2.2.2.2.1
  have hi0 : 0 ≤ i := by
    rcases hst with ⟨a1, a2, a3⟩ | ⟨a1, a2, a3⟩
    · omega
    · have := eA_r (N := R 66) (g := g) (h := R 66 102 + 0) (s := st) (by omega)
      omega
  have hlen := Pl_len (N := R 66) (g := g) (K := K) (K - i).toNat i x
  have hlen' : (Pa (R 66) g K i x).length ≤ 60 := by unfold Pa; omega
  obtain ⟨τ, h3, R', rfl, b1, b2', b3, b4⟩ := loop_inv (f := fX13_watch_L122 S 64 (I g) (I K) x5) (m := 1000) (s := (I st, I 0, mk R w rf)) (fun k t => ∃ R' st' i' x' L, t = (I st', I k, mk R' w rf) ∧ (∀ a, a ≠ 64 → a ≠ 77 → R' a = R a) ∧ (∀ j, j ≠ 28 → R' 64 j = R 64 j) ∧ stR2 (R 66) g K k st' i' x' ∧ Fa (R 66) g K i' x' < 1000 ∧ R' 64 28 = (List.length L : Int) ∧ (∀ (j : Nat) (h : j < List.length L), R' 77 j = L[j]) ∧ Pa (R 66) g K i x = L ++ Pa (R 66) g K i' x') (fun r => ∃ R', r = mk R' w rf ∧ (∀ a, a ≠ 64 → a ≠ 77 → R' a = R a) ∧ (∀ j, j ≠ 28 → R' 64 j = R 64 j) ∧ R' 64 28 = (Pa (R 66) g K i x).length ∧ (∀ (j : Nat) (h : j < (Pa (R 66) g K i x).length), R' 77 j = (Pa (R 66) g K i x)[j])) K.toNat (by omega) ⟨R, st, i, x, [], rfl, fun a h1 h2 => rfl, fun j h => rfl, hst, hfin, by rw [h28]; rfl, fun j h => absurd h (Nat.not_lt_zero j), rfl⟩ (by
      intro k t hk ⟨R', st', i', x', L, ht, c1, c2, c3, c4, c6, c7, c8⟩
      subst ht
      left
      have R66 : R' 66 = R 66 := c1 66 (by omega) (by omega)
      have R76 : R' 76 = R 76 := c1 76 (by omega) (by omega)
      have h5 : ¬ (K ≤ (k : Int)) := by omega
      have ek : ((k + 1 : Nat) : Int) = (k : Int) + 1 := by omega
      have eh : R 66 102 + ((k : Int) + 1) = R 66 102 + k + 1 := by omega
      rcases c3 with ⟨a1, a2, a3⟩ | ⟨a1, a2, a3⟩
      · subst a2
        have h6 : 250 < st' := by omega
        have mt := M_isTurned (S := S) (w := w) (R := R') (g := g) (h := R 66 102 + k) hS hr (by rw [R66]; exact wf) (by rw [R66]; exact wl) (by rw [R66]; exact hg) (by rw [R66]; omega)
        have ms := M_sleeper (S := S) (w := w) (R := R') (g := g) (h := R 66 102 + k) hS hr (by rw [R66]; exact wf) (by rw [R66]; exact wl) (by rw [R66]; exact hg) (by rw [R66]; omega)
        rw [R66] at mt ms
        have mwt := M_waits (S := S) (w := w) (R := R') (g := g) (K := K) (k := (k : Int)) (x := x') hS hr (by rw [R66]; exact wf) hK (by omega) (by omega) (by rw [R66, R76]; exact fun j h1 h2 => mw j (by omega) h2)
        rw [R66] at mwt
        have exs : st' - 251 = x' := by omega
        have mka : fX13_wakesAt S (mk R' w rf) 64 (I k) (I st') = some (I (Gv (Fa (R 66) g K k x'))) := by
          rw [M_wakesAt hS hr (by omega), R76, a1]
          have e := (mw k (by omega) (by omega)).2 x' a3.1 a3.2
          have e1 : 261 * (k : Int) + (251 + x') = 261 * (k : Int) + 251 + x' := by omega
          rw [e1, e]
        have pe := Pa_eq (N := R 66) (g := g) (w := x') hK2 (by omega : (k : Int) < K)
        have fe := Fa_eq (N := R 66) (g := g) (w := x') hK2 (by omega : (k : Int) < K)
        have ar := aT_r (N := R 66) (g := g) (i := (k : Int)) (by omega)
        have gr := Gv_r (N := R 66) (g := g) (K := K) (i := (k : Int)) (w := x') hK.2 (by omega)
        have stn : stR2 (R 66) g K ((k + 1 : Nat) : Int) (R 66 (64 + g)) (aT (R 66) g k) 0 := by
          refine Or.inr ⟨by omega, ?_, rfl⟩
          rw [ek, eh]
          rfl
        by_cases q1 : someW (R 66) g (R 66 102 + k)
        · rw [b2_t q1] at mt
          rw [ii_t q1] at pe fe
          refine ⟨(I (R 66 (64 + g)), I ((k + 1 : Nat) : Int), mk R' w rf), ?_, R', R 66 (64 + g), aT (R 66) g k, 0, L, rfl, c1, c2, stn, by rw [← fe]; exact c4, c6, c7, by rw [c8, pe]⟩
          simp (disch := first | assumption | omega) only [fX13_watch_L122, fX13_watch_b276, I_lit, orb_I, I_add, I_sub, I_mul, I_neg, nm_eq, bd0_s, bd2_s, un2_eq, un3_eq, un4_eq, un5_eq, un6_eq, cs2_l, cs2_r, mk_1, mk_2, wI_mk, wL_mk, wR_mk, setR_same, setR_setR, rZ_0, rZ_1, rZ_b2, it_b2, it_nb2, it_b21, it_nb21, I_lt, I_le, I_eq, I_div, castI, if_true, if_false, Classical.not_not, h5, gM14, ldM66, R66, h6, mt, Int.reduceEq]
          rfl
        · rw [b2_f q1] at mt
          rw [ii_f q1] at pe
          obtain ⟨gm1, gm2, gm3⟩ := G_min (N := R 66) (g := g) (K := K) (i := (k : Int)) (w := x') hK2 hK.2 (by omega) q1
          have gr2 : 0 ≤ Gv (wtA (R 66) g K k x') ∧ Gv (wtA (R 66) g K k x') ≤ 100000 := by
            unfold wtA
            by_cases q : x' + 1 < R 66 3
            · rw [ii_t q]
              have := Gv_r (N := R 66) (g := g) (K := K) (i := (k : Int) + 1) (w := x' + 1) hK.2 (by omega)
              omega
            · rw [ii_f q]
              unfold Gv
              rw [ii_t rfl]
              omega
          by_cases q2 : wkA (R 66) g K k x'
          · rw [ii_t q2] at pe
            have qne : ¬ (Gv (wtA (R 66) g K k x') = Gv (Fa (R 66) g K k x')) := fun h => gm3.1 h q2
            have hll : L.length < 60 := by
              have h9 := congrArg List.length c8
              rw [List.length_append, pe] at h9
              simp only [List.length_cons] at h9
              omega
            have slr : -1 ≤ slA (R 66) g (R 66 102 + k) ∧ slA (R 66) g (R 66 102 + k) ≤ 1 := by
              unfold slA ii
              (repeat' split) <;> omega
            have ev : 10 * (R 66 102 + (k : Int)) + slA (R 66) g (R 66 102 + k) = wkV (R 66) g k := by
              rw [sl_can.2 q2.1]
              rfl
            have ff : Fa (R 66) g K (aT (R 66) g k) 0 < 1000 := by
              have r1 := Fa_r (N := R 66) (g := g) (K := K) (i := aT (R 66) g k) (w := 0)
              have h7 := q2.2
              have r2 : wtA (R 66) g K k x' ≤ 1000 := by
                unfold wtA ii
                split
                · have := Fa_r (N := R 66) (g := g) (K := K) (i := (k : Int) + 1) (w := x' + 1)
                  omega
                · omega
              omega
            generalize hR3 : setR (setR R' 77 (updf (R' 77) L.length (wkV (R 66) g k))) 64 (updf (R' 64) 28 ((L.length : Int) + 1)) = R3
            have R366 : R3 66 = R 66 := by rw [← hR3, setR_ne (by omega), setR_ne (by omega), R66]
            refine ⟨(I (R 66 (64 + g)), I ((k + 1 : Nat) : Int), mk R3 w rf), ?_, R3, R 66 (64 + g), aT (R 66) g k, 0, L ++ [wkV (R 66) g k], rfl, ?_, ?_, stn, ff, ?_, ?_, ?_⟩
            · simp (disch := first | assumption | omega) only [fX13_watch_L122, fX13_watch_b276, I_lit, orb_I, I_add, I_sub, I_mul, I_neg, nm_eq, bd0_s, bd2_s, un2_eq, un3_eq, un4_eq, un5_eq, un6_eq, cs2_l, cs2_r, mk_1, mk_2, wI_mk, wL_mk, wR_mk, setR_same, setR_setR, rZ_0, rZ_1, rZ_b2, it_b2, it_nb2, it_b21, it_nb21, I_lt, I_le, I_eq, I_div, castI, if_true, if_false, Classical.not_not, h5, gM14, ldM66, R66, h6, mt, exs, mwt, mka, qne, not_false_eq_true, gM27, ms, c6, ev, stM77, setR_ne, hR3, R366]
              rfl
            · intro a h1 h2
              rw [← hR3, setR_ne h1, setR_ne h2, c1 a h1 h2]
            · intro j hj
              rw [← hR3, setR_same, updf_ne hj, c2 j hj]
            · rw [← hR3, setR_same, updf_same rfl, List.length_append]
              simp
            · intro j hj
              rw [← hR3, setR_ne (by omega), setR_same]
              by_cases ej : j = L.length
              · rw [updf_same (by omega)]
                simp [ej]
              · have hj2 : j < L.length := by
                  rw [List.length_append] at hj
                  simp at hj
                  omega
                rw [updf_ne (by omega), c7 j hj2, List.getElem_append_left hj2]
            · rw [c8, pe, List.append_assoc]
              rfl
          · rw [ii_f q2] at pe
            have qe := gm3.2 q2
            have fw : Fa (R 66) g K k x' = wtA (R 66) g K k x' := by
              have r1 := Fa_r (N := R 66) (g := g) (K := K) (i := (k : Int)) (w := x')
              unfold Gv ii at qe
              revert qe
              (repeat' split) <;> omega
            have q3 : x' + 1 < R 66 3 := by
              by_cases q : x' + 1 < R 66 3
              · exact q
              · unfold wtA at fw
                rw [ii_f q] at fw
                omega
            unfold wtA at fw
            rw [ii_t q3] at fw
            refine ⟨(I (st' + 1), I ((k + 1 : Nat) : Int), mk R' w rf), ?_, R', st' + 1, ((k + 1 : Nat) : Int), x' + 1, L, rfl, c1, c2, Or.inl ⟨by omega, rfl, by omega⟩, by rw [ek, ← fw]; exact c4, c6, c7, by rw [c8, pe, ek]⟩
            simp (disch := first | assumption | omega) only [fX13_watch_L122, fX13_watch_b276, I_lit, orb_I, I_add, I_sub, I_mul, I_neg, nm_eq, bd0_s, bd2_s, un2_eq, un3_eq, un4_eq, un5_eq, un6_eq, cs2_l, cs2_r, mk_1, mk_2, wI_mk, wL_mk, wR_mk, setR_same, setR_setR, rZ_0, rZ_1, rZ_b2, it_b2, it_nb2, it_b21, it_nb21, I_lt, I_le, I_eq, I_div, castI, if_true, if_false, Classical.not_not, h5, gM14, ldM66, R66, h6, mt, exs, mwt, mka, qe, not_true]
            rfl
      · have h6 : ¬ (250 < st') := by omega
        have mr := M_runs (S := S) (w := w) (R := R') (g := g) (h := R 66 102 + k) hS hr (by rw [R66]; exact wf) (by rw [R66]; exact wl) (by omega) (by omega)
        rw [R66] at mr
        have hrr := runA_r (h := R 66 102 + k) wl (by omega : 0 ≤ g ∧ g < 4)
        have es := eA_step (N := R 66) (g := g) (h := R 66 102 + k) (s := st') (by omega) a1.1
        by_cases q : st' ≤ runA (R 66) g (R 66 102 + k)
        · rw [ii_f (by omega)] at es
          refine ⟨(I 251, I ((k + 1 : Nat) : Int), mk R' w rf), ?_, R', 251, i', x', L, rfl, c1, c2, Or.inl ⟨by omega, by omega, by omega⟩, c4, c6, c7, c8⟩
          simp (disch := first | assumption | omega) only [fX13_watch_L122, fX13_watch_b175, fX13_watch_b276, I_lit, orb_I, I_add, I_sub, I_mul, I_neg, nm_eq, bd0_s, bd2_s, un2_eq, un3_eq, un4_eq, un5_eq, un6_eq, cs2_l, cs2_r, mk_1, mk_2, wI_mk, wL_mk, wR_mk, setR_same, setR_setR, rZ_0, rZ_1, rZ_b2, it_b2, it_nb2, it_b21, it_nb21, I_lt, I_le, I_eq, I_div, castI, if_true, if_false, Classical.not_not, h5, gM14, ldM66, R66, h6, mr, q]
          rfl
        · rw [ii_t (by omega)] at es
          refine ⟨(I (st' - runA (R 66) g (R 66 102 + k)), I ((k + 1 : Nat) : Int), mk R' w rf), ?_, R', _, i', x', L, rfl, c1, c2, Or.inr ⟨by omega, ?_, a3⟩, c4, c6, c7, c8⟩
          · simp (disch := first | assumption | omega) only [fX13_watch_L122, fX13_watch_b175, fX13_watch_b276, I_lit, orb_I, I_add, I_sub, I_mul, I_neg, nm_eq, bd0_s, bd2_s, un2_eq, un3_eq, un4_eq, un5_eq, un6_eq, cs2_l, cs2_r, mk_1, mk_2, wI_mk, wL_mk, wR_mk, setR_same, setR_setR, rZ_0, rZ_1, rZ_b2, it_b2, it_nb2, it_b21, it_nb21, I_lt, I_le, I_eq, I_div, castI, if_true, if_false, Classical.not_not, h5, gM14, ldM66, R66, h6, mr, q]
            rfl
          · rw [a2, es, ek, eh]) (by
      intro t ⟨R', st', i', x', L, ht, c1, c2, c3, c4, c6, c7, c8⟩
      subst ht
      have h5 : (K ≤ (K.toNat : Int)) := by omega
      have q0 : K ≤ i' := by
        rcases c3 with ⟨a1, a2, a3⟩ | ⟨a1, a2, a3⟩
        · omega
        · have := eA_r (N := R 66) (g := g) (h := R 66 102 + (K.toNat : Int)) (s := st') (by omega)
          omega
      rw [Pa_end q0, List.append_nil] at c8
      refine ⟨mk R' w rf, ?_, R', rfl, c1, c2, by rw [c8]; exact c6, by rw [c8]; exact c7⟩
      simp (disch := first | assumption | omega) only [fX13_watch_L122, I_lit, orb_I, I_add, I_sub, I_mul, I_neg, nm_eq, bd0_s, bd2_s, un2_eq, un3_eq, un4_eq, un5_eq, un6_eq, cs2_l, cs2_r, mk_1, mk_2, wI_mk, wL_mk, wR_mk, setR_same, setR_setR, rZ_0, rZ_1, rZ_b2, it_b2, it_nb2, it_b21, it_nb21, I_lt, I_le, I_eq, I_div, castI, if_true, if_false, Classical.not_not, h5])
  exact ⟨R', h3, b3, b4, b1, b2'⟩
