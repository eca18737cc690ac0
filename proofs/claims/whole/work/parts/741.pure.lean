noncomputable def Gv (x : Int) : Int := ii (x = 1000) 100000 x
theorem Gv_r {N : Int → Int} {g K i w : Int} (hK : K ≤ 60) (hi : 0 ≤ i) : 0 ≤ Gv (Fa N g K i w) ∧ Gv (Fa N g K i w) ≤ 100000 ∧ (Gv (Fa N g K i w) < 100000 ↔ Fa N g K i w < 1000) := by
  have := Fa_r (N := N) (g := g) (K := K) (i := i) (w := w)
  unfold Gv ii
  split <;> omega
def MW (N : Int → Int) (g K k0 : Int) (A : Int → Int) : Prop := ∀ k, k0 ≤ k → k ≤ K → (∀ s, 1 ≤ s → s ≤ 250 → A (261 * k + s) = Gv (Fa N g K (eA N g (N 102 + k) s - N 102) 0)) ∧ (∀ w, 0 ≤ w → w ≤ 8 → A (261 * k + 251 + w) = Gv (Fa N g K k w))
theorem M_isTurned {S : Nat → Nat × Nat} {R : Nat → Int → Int} {w : Nat → Nat → Int64} {rf : Nat → Nat → Option Nat} {g h : Int} (hS : SMok S) (hr : RMok rf) (wf : WFP (R 66)) (wl : WFL (R 66)) (hg : 0 ≤ g ∧ g < R 66 1) (hh : R 66 102 ≤ h ∧ h ≤ 600) : fX13_isTurned S (mk R w rf) 64 (I g) (I h) = some (b2 (someW (R 66) g h)) := by
  have wn0 := wf.1
  have wn1 := wf.2.1
  obtain ⟨g1, g2, g4, g5⟩ := WFP_own wf hg
  have m1 := M_isWilling (S := S) (w := w) (R := R) (p := R 66 (56 + g)) (h := h) hS hr wf wl (by omega) hh
  have m2 := M_isWilling (S := S) (w := w) (R := R) (p := R 66 (60 + g)) (h := h) hS hr wf wl (by omega) hh
  simp (disch := first | assumption | omega) only [fX13_isTurned, fX13_isTurned_b34, fX13_isTurned_b39, I_lit, orb_I, I_add, I_sub, I_mul, I_neg, nm_eq, bd0_s, bd2_s, un2_eq, un3_eq, un4_eq, un5_eq, un6_eq, cs2_l, cs2_r, mk_1, mk_2, wI_mk, wL_mk, wR_mk, setR_same, setR_setR, rZ_0, rZ_1, rZ_b2, it_b2, it_nb2, it_b21, it_nb21, I_lt, I_le, I_eq, I_div, castI, if_true, if_false, Classical.not_not, gM14, ldM66, m1, m2]
  unfold someW
  by_cases q1 : wilA (R 66) (R 66 (56 + g)) h
  · rw [b2_t (Or.inl q1), if_pos q1]; rfl
  · by_cases q2 : wilA (R 66) (R 66 (60 + g)) h
    · rw [b2_t (Or.inr q2), if_neg q1, if_pos q2]; rfl
    · rw [b2_f (fun h => by rcases h with h | h; exact q1 h; exact q2 h), if_neg q1, if_neg q2]; rfl
noncomputable def slA (N : Int → Int) (g h : Int) : Int := ii (N 4 ≤ fdA N (N (56 + g)) h) 0 (ii (N 4 ≤ fdA N (N (60 + g)) h) 1 (-1))
theorem sl_can {N : Int → Int} {g h : Int} : (slA N g h = -1 ↔ ¬ canW N g h) ∧ (canW N g h → slA N g h = ii (N 4 ≤ fdA N (N (56 + g)) h) 0 1) := by
  unfold slA canW
  by_cases q1 : N 4 ≤ fdA N (N (56 + g)) h
  · rw [ii_t q1, ii_t q1]
    exact ⟨⟨fun h => by omega, fun h => absurd (Or.inl q1) h⟩, fun _ => rfl⟩
  · rw [ii_f q1, ii_f q1]
    by_cases q2 : N 4 ≤ fdA N (N (60 + g)) h
    · rw [ii_t q2]
      exact ⟨⟨fun h => by omega, fun h => absurd (Or.inr q2) h⟩, fun _ => rfl⟩
    · rw [ii_f q2]
      exact ⟨⟨fun _ h => by rcases h with h | h; exact q1 h; exact q2 h, fun _ => rfl⟩, fun h => by rcases h with h | h; exact absurd h q1; exact absurd h q2⟩
theorem M_sleeper {S : Nat → Nat × Nat} {R : Nat → Int → Int} {w : Nat → Nat → Int64} {rf : Nat → Nat → Option Nat} {g h : Int} (hS : SMok S) (hr : RMok rf) (wf : WFP (R 66)) (wl : WFL (R 66)) (hg : 0 ≤ g ∧ g < R 66 1) (hh : R 66 102 ≤ h ∧ h ≤ 600) : fX13_sleeper S (mk R w rf) 64 (I g) (I h) = some (I (slA (R 66) g h)) := by
  have wn0 := wf.1
  have wn1 := wf.2.1
  have wn4 := wf.2.2.2.2.1
  obtain ⟨g1, g2, g4, g5⟩ := WFP_own wf hg
  have m1 := M_fondAt (S := S) (w := w) (R := R) (p := R 66 (56 + g)) (h := h) hS hr wf wl (by omega) hh
  have m2 := M_fondAt (S := S) (w := w) (R := R) (p := R 66 (60 + g)) (h := h) hS hr wf wl (by omega) hh
  have f1 : 0 ≤ fdA (R 66) (R 66 (56 + g)) h ∧ fdA (R 66) (R 66 (56 + g)) h ≤ 99 := fdK_r wf wl (by omega) _
  have f2 : 0 ≤ fdA (R 66) (R 66 (60 + g)) h ∧ fdA (R 66) (R 66 (60 + g)) h ≤ 99 := fdK_r wf wl (by omega) _
  simp (disch := first | assumption | omega) only [fX13_sleeper, fX13_sleeper_b53, I_lit, orb_I, I_add, I_sub, I_mul, I_neg, nm_eq, bd0_s, bd2_s, un2_eq, un3_eq, un4_eq, un5_eq, un6_eq, cs2_l, cs2_r, mk_1, mk_2, wI_mk, wL_mk, wR_mk, setR_same, setR_setR, rZ_0, rZ_1, rZ_b2, it_b2, it_nb2, it_b21, it_nb21, I_lt, I_le, I_eq, I_div, castI, if_true, if_false, Classical.not_not, gM14, ldM66, m1, m2]
  unfold slA ii
  (repeat' split) <;> first | rfl | omega
theorem M_wakesAt {S : Nat → Nat × Nat} {R : Nat → Int → Int} {w : Nat → Nat → Int64} {rf : Nat → Nat → Option Nat} {k s : Int} (hS : SMok S) (hr : RMok rf) (h : 0 ≤ 261 * k + s ∧ 261 * k + s < 15921) : fX13_wakesAt S (mk R w rf) 64 (I k) (I s) = some (I (R 76 (261 * k + s))) := by
  simp (disch := first | assumption | omega) only [fX13_wakesAt, I_lit, orb_I, I_add, I_sub, I_mul, I_neg, nm_eq, bd0_s, bd2_s, un2_eq, un3_eq, un4_eq, un5_eq, un6_eq, cs2_l, cs2_r, mk_1, mk_2, wI_mk, wL_mk, wR_mk, setR_same, setR_setR, rZ_0, rZ_1, rZ_b2, it_b2, it_nb2, it_b21, it_nb21, I_lt, I_le, I_eq, I_div, castI, if_true, if_false, Classical.not_not, gM26, ldM76]
theorem M_waits {S : Nat → Nat × Nat} {R : Nat → Int → Int} {w : Nat → Nat → Int64} {rf : Nat → Nat → Option Nat} {g K k x : Int} (hS : SMok S) (hr : RMok rf) (wf : WFP (R 66)) (hK : 0 ≤ K ∧ K ≤ 60) (hk : 0 ≤ k ∧ k < K) (hx : 0 ≤ x ∧ x ≤ 8) (mw : MW (R 66) g K (k + 1) (R 76)) : fX13_waits S (mk R w rf) 64 (I k) (I x) = some (I (Gv (wtA (R 66) g K k x))) := by
  have wn3 := wf.2.2.2.1
  unfold wtA
  by_cases q : x + 1 < R 66 3
  · rw [ii_t q]
    have e := (mw (k + 1) (by omega) (by omega)).2 (x + 1) (by omega) (by omega)
    have e1 : 261 * (k + 1) + (251 + x + 1) = 261 * (k + 1) + 251 + (x + 1) := by omega
    simp (disch := first | assumption | omega) only [fX13_waits, fX13_waits_b32, I_lit, orb_I, I_add, I_sub, I_mul, I_neg, nm_eq, bd0_s, bd2_s, un2_eq, un3_eq, un4_eq, un5_eq, un6_eq, cs2_l, cs2_r, mk_1, mk_2, wI_mk, wL_mk, wR_mk, setR_same, setR_setR, rZ_0, rZ_1, rZ_b2, it_b2, it_nb2, it_b21, it_nb21, I_lt, I_le, I_eq, I_div, castI, if_true, if_false, Classical.not_not, gM14, ldM66, q, M_wakesAt hS hr, e1, e]
  · rw [ii_f q]
    have : Gv 1000 = 100000 := by unfold Gv; rw [ii_t rfl]
    simp (disch := first | assumption | omega) only [fX13_waits, fX13_waits_b32, I_lit, orb_I, I_add, I_sub, I_mul, I_neg, nm_eq, bd0_s, bd2_s, un2_eq, un3_eq, un4_eq, un5_eq, un6_eq, cs2_l, cs2_r, mk_1, mk_2, wI_mk, wL_mk, wR_mk, setR_same, setR_setR, rZ_0, rZ_1, rZ_b2, it_b2, it_nb2, it_b21, it_nb21, I_lt, I_le, I_eq, I_div, castI, if_true, if_false, Classical.not_not, gM14, ldM66, q, this]
theorem G_min {N : Int → Int} {g K i w : Int} (hK2 : N 102 + K ≤ 600) (hK : K ≤ 60) (hi : 0 ≤ i ∧ i < K) (hns : ¬ someW N g (N 102 + i)) : (canW N g (N 102 + i) → min (Gv (Fa N g K (aT N g i) 0) + 1) (Gv (wtA N g K i w)) = Gv (Fa N g K i w)) ∧ (¬ canW N g (N 102 + i) → Gv (wtA N g K i w) = Gv (Fa N g K i w)) ∧ (Gv (wtA N g K i w) = Gv (Fa N g K i w) ↔ ¬ wkA N g K i w) := by
  have r1 := Fa_r (N := N) (g := g) (K := K) (i := aT N g i) (w := 0)
  have r2 : wtA N g K i w = 1000 ∨ (0 ≤ wtA N g K i w ∧ wtA N g K i w < 1000) := by
    unfold wtA ii
    split
    · have := Fa_r (N := N) (g := g) (K := K) (i := i + 1) (w := w + 1)
      omega
    · exact Or.inl rfl
  have ar := aT_r (N := N) (g := g) (i := i) (by omega)
  have e := Fa_eq (N := N) (g := g) (w := w) hK2 hi.2
  rw [ii_f hns] at e
  have e2 : ii (w + 1 < N 3) (Fa N g K (i + 1) (w + 1)) 1000 = wtA N g K i w := rfl
  rw [e2] at e
  refine ⟨fun h => ?_, fun h => ?_, ?_⟩
  · rw [ii_t h] at e
    rw [e]
    unfold Gv ii
    (repeat' split) <;> omega
  · rw [ii_f h] at e
    rw [e]
    unfold Gv ii
    (repeat' split) <;> omega
  · rw [e]
    unfold wkA
    by_cases h : canW N g (N 102 + i)
    · rw [ii_t h]
      have : (canW N g (N 102 + i) ∧ 1 + Fa N g K (aT N g i) 0 < wtA N g K i w) ↔ 1 + Fa N g K (aT N g i) 0 < wtA N g K i w := ⟨fun h => h.2, fun h2 => ⟨h, h2⟩⟩
      rw [this]
      unfold Gv ii
      (repeat' split) <;> omega
    · rw [ii_f h]
      constructor
      · intro _ h3
        exact h h3.1
      · intro _
        unfold Gv ii
        (repeat' split) <;> omega
theorem MW_up {N : Int → Int} {g K k z x : Int} {A : Int → Int} (mw : MW N g K (k + 1) A) (hz : z < 261 * (k + 1)) : MW N g K (k + 1) (updf A z x) := by
  intro j h1 h2
  obtain ⟨a1, a2⟩ := mw j h1 h2
  refine ⟨fun s h3 h4 => ?_, fun w h3 h4 => ?_⟩
  · rw [updf_ne (by omega)]; exact a1 s h3 h4
  · rw [updf_ne (by omega)]; exact a2 w h3 h4
theorem M_layStep {S : Nat → Nat × Nat} {R : Nat → Int → Int} {w : Nat → Nat → Int64} {rf : Nat → Nat → Option Nat} {g K k : Int} (hS : SMok S) (hr : RMok rf) (wf : WFP (R 66)) (wl : WFL (R 66)) (hg : 0 ≤ g ∧ g < R 66 1) (hK : 0 ≤ K ∧ K ≤ 60) (hK2 : R 66 102 + K ≤ 600) (hk : 0 ≤ k ∧ k < K) (mw : MW (R 66) g K (k + 1) (R 76)) : ∃ A, fX13_layWatch_L46 S 64 (I g) (I (R 66 (64 + g))) (I k, mk R w rf) = some (.inl (I (k - 1), mk (setR R 76 A) w rf)) ∧ MW (R 66) g K k A := by
  have hb := wl.1
  have wn1 := wf.2.1
  have wn3 := wf.2.2.2.1
  have hgr := wf.2.2.2.2.2.2.2.2.2.2.2.2.2.2.2.1 g hg.1 (by omega)
  have hgr1 := (wf.2.2.2.2.2.2.2.2.2.2.2.2.2.2.1 g hg.1 hg.2).2.2.2.2.2.1
  have hrr := runA_r (h := R 66 102 + k) wl (by omega : 0 ≤ g ∧ g < 4)
  have h5 : ¬ (k < 0) := by omega
  have mr := M_runs (w := w) hS hr wf wl (by omega : 0 ≤ g ∧ g < 4) (⟨by omega, by omega⟩ : -1 ≤ R 66 102 + k ∧ R 66 102 + k ≤ 600)
  obtain ⟨τ, l1, A1, rfl, b1, bb2⟩ := loop_inv (f := fX13_layWatch_L75 S 64 (I g) (I (R 66 (64 + g))) (I k) (I (R 66 102 + k)) (I (runA (R 66) g (R 66 102 + k)))) (m := 1000) (s := (I 1, mk R w rf)) (fun j t => ∃ A, t = (I (1 + j), mk (setR R 76 A) w rf) ∧ MW (R 66) g K (k + 1) A ∧ ∀ s : Int, 1 ≤ s → s < 1 + j → A (261 * k + s) = Gv (Fa (R 66) g K (eA (R 66) g (R 66 102 + k) s - R 66 102) 0)) (fun r => ∃ A, r = mk (setR R 76 A) w rf ∧ MW (R 66) g K (k + 1) A ∧ ∀ s : Int, 1 ≤ s → s ≤ 250 → A (261 * k + s) = Gv (Fa (R 66) g K (eA (R 66) g (R 66 102 + k) s - R 66 102) 0)) 250 (by omega) ⟨R 76, by rw [setR_id]; rfl, mw, fun s h1 h2 => by omega⟩ (by
      intro j t hj ⟨A, ht, c1, c2⟩
      subst ht
      left
      have h6 : ¬ (250 < 1 + (j : Int)) := by omega
      have es := eA_step (N := R 66) (g := g) (h := R 66 102 + k) (s := 1 + (j : Int)) (by omega) (by omega)
      generalize hv : Gv (Fa (R 66) g K (eA (R 66) g (R 66 102 + k) (1 + (j : Int)) - R 66 102) 0) = v
      have ek : 1 + (j : Int) + 1 = 1 + ((j + 1 : Nat) : Int) := by omega
      refine ⟨(I (1 + ((j + 1 : Nat) : Int)), mk (setR R 76 (updf A (261 * k + (1 + (j : Int))) v)) w rf), ?_, _, rfl, MW_up c1 (by omega), ?_⟩
      · by_cases q : 1 + (j : Int) ≤ runA (R 66) g (R 66 102 + k)
        · rw [ii_f (by omega)] at es
          have e1 := (c1 (k + 1) (by omega) (by omega)).2 0 (by omega) (by omega)
          have ei : eA (R 66) g (R 66 102 + k) (1 + (j : Int)) - R 66 102 = k + 1 := by rw [es]; omega
          rw [ei] at hv
          rw [Int.add_zero] at e1
          simp (disch := first | assumption | omega) only [fX13_layWatch_L75, fX13_layWatch_b119, I_lit, orb_I, I_add, I_sub, I_mul, I_neg, nm_eq, bd0_s, bd2_s, un2_eq, un3_eq, un4_eq, un5_eq, un6_eq, cs2_l, cs2_r, mk_1, mk_2, wI_mk, wL_mk, wR_mk, setR_same, setR_setR, rZ_0, rZ_1, rZ_b2, it_b2, it_nb2, it_b21, it_nb21, I_lt, I_le, I_eq, I_div, castI, if_true, if_false, Classical.not_not, h6, gM26, q, M_wakesAt hS hr, e1, hv, stM76]
          rw [ek]
        · rw [ii_t (by omega)] at es
          have e1 := (c1 (k + 1) (by omega) (by omega)).1 (1 + (j : Int) - runA (R 66) g (R 66 102 + k)) (by omega) (by omega)
          have eh : R 66 102 + (k + 1) = R 66 102 + k + 1 := by omega
          rw [eh, ← es, hv] at e1
          simp (disch := first | assumption | omega) only [fX13_layWatch_L75, fX13_layWatch_b119, I_lit, orb_I, I_add, I_sub, I_mul, I_neg, nm_eq, bd0_s, bd2_s, un2_eq, un3_eq, un4_eq, un5_eq, un6_eq, cs2_l, cs2_r, mk_1, mk_2, wI_mk, wL_mk, wR_mk, setR_same, setR_setR, rZ_0, rZ_1, rZ_b2, it_b2, it_nb2, it_b21, it_nb21, I_lt, I_le, I_eq, I_div, castI, if_true, if_false, Classical.not_not, h6, gM26, q, M_wakesAt hS hr, e1, stM76]
          rw [ek]
      · intro s h1 h2
        by_cases e : s = 1 + j
        · rw [e, updf_same rfl, hv]
        · rw [updf_ne (by omega)]; exact c2 s h1 (by omega)) (by
      intro t ⟨A, ht, c1, c2⟩
      subst ht
      have h6 : (250 : Int) < 1 + ((250 : Nat) : Int) := by omega
      refine ⟨mk (setR R 76 A) w rf, ?_, A, rfl, c1, fun s h1 h2 => c2 s h1 (by omega)⟩
      simp (disch := first | assumption | omega) only [fX13_layWatch_L75, un2_eq, I_lit, I_lt, h6, if_true])
  have s66 : setR R 76 A1 66 = R 66 := setR_ne (by omega)
  have mt := M_isTurned (S := S) (w := w) (R := setR R 76 A1) (g := g) (h := R 66 102 + k) hS hr (by rw [s66]; exact wf) (by rw [s66]; exact wl) (by rw [s66]; exact hg) (by rw [s66]; omega)
  have ms := M_sleeper (S := S) (w := w) (R := setR R 76 A1) (g := g) (h := R 66 102 + k) hS hr (by rw [s66]; exact wf) (by rw [s66]; exact wl) (by rw [s66]; exact hg) (by rw [s66]; omega)
  rw [s66] at mt ms
  have ew := (b1 (k + 1) (by omega) (by omega)).1 (R 66 (64 + g)) hgr1 hgr.2
  have ea : eA (R 66) g (R 66 102 + (k + 1)) (R 66 (64 + g)) - R 66 102 = aT (R 66) g k := by
    unfold aT
    have : R 66 102 + (k + 1) = R 66 102 + k + 1 := by omega
    rw [this]
  rw [ea] at ew
  have ar := aT_r (N := R 66) (g := g) (i := k) (by omega)
  have gr := Gv_r (N := R 66) (g := g) (K := K) (i := aT (R 66) g k) (w := 0) hK.2 (by omega)
  obtain ⟨sc1, sc2⟩ := sl_can (N := R 66) (g := g) (h := R 66 102 + k)
  obtain ⟨τ2, l2, A2, rfl, d1, d2, d3⟩ := loop_inv (f := fX13_layWatch_L172 S 64 (I g) (I (R 66 (64 + g))) (I k) (b2 (someW (R 66) g (R 66 102 + k))) (b2 (canW (R 66) g (R 66 102 + k))) (I (Gv (Fa (R 66) g K (aT (R 66) g k) 0) + 1))) (m := 1000) (s := (I 0, mk (setR R 76 A1) w rf)) (fun j t => ∃ A, t = (I j, mk (setR R 76 A) w rf) ∧ MW (R 66) g K (k + 1) A ∧ (∀ s : Int, 1 ≤ s → s ≤ 250 → A (261 * k + s) = Gv (Fa (R 66) g K (eA (R 66) g (R 66 102 + k) s - R 66 102) 0)) ∧ ∀ x : Int, 0 ≤ x → x < j → A (261 * k + 251 + x) = Gv (Fa (R 66) g K k x)) (fun r => ∃ A, r = mk (setR R 76 A) w rf ∧ MW (R 66) g K (k + 1) A ∧ (∀ s : Int, 1 ≤ s → s ≤ 250 → A (261 * k + s) = Gv (Fa (R 66) g K (eA (R 66) g (R 66 102 + k) s - R 66 102) 0)) ∧ ∀ x : Int, 0 ≤ x → x ≤ 8 → A (261 * k + 251 + x) = Gv (Fa (R 66) g K k x)) 9 (by omega) ⟨A1, rfl, b1, bb2, fun x h1 h2 => by omega⟩ (by
      intro j t hj ⟨A, ht, c1, c2, c3⟩
      subst ht
      left
      have h6 : ¬ (9 ≤ (j : Int)) := by omega
      have mwt := M_waits (S := S) (w := w) (R := setR R 76 A) (g := g) (K := K) (k := k) (x := (j : Int)) hS hr (by rw [setR_ne (by omega)]; exact wf) hK hk (by omega) (by rw [setR_same, setR_ne (by omega)]; exact c1)
      rw [setR_ne (by omega)] at mwt
      have e9 := Fa_eq (N := R 66) (g := g) (w := (j : Int)) hK2 hk.2
      have gr2 : 0 ≤ Gv (wtA (R 66) g K k j) ∧ Gv (wtA (R 66) g K k j) ≤ 100000 := by
        unfold wtA
        by_cases q : (j : Int) + 1 < R 66 3
        · rw [ii_t q]
          have := Gv_r (N := R 66) (g := g) (K := K) (i := k + 1) (w := (j : Int) + 1) hK.2 (by omega)
          omega
        · rw [ii_f q]
          unfold Gv
          rw [ii_t rfl]
          omega
      refine ⟨(I ((j + 1 : Nat) : Int), mk (setR R 76 (updf A (261 * k + 251 + j) (Gv (Fa (R 66) g K k j)))) w rf), ?_, _, rfl, MW_up c1 (by omega), ?_, ?_⟩
      · by_cases q1 : someW (R 66) g (R 66 102 + k)
        · rw [ii_t q1] at e9
          have ev : Gv (Fa (R 66) g K (aT (R 66) g k) 0) + 1 - 1 = Gv (Fa (R 66) g K k j) := by rw [e9]; omega
          rw [b2_t q1]
          simp (disch := first | assumption | omega) only [fX13_layWatch_L172, fX13_layWatch_b237, I_lit, orb_I, I_add, I_sub, I_mul, I_neg, nm_eq, bd0_s, bd2_s, un2_eq, un3_eq, un4_eq, un5_eq, un6_eq, cs2_l, cs2_r, mk_1, mk_2, wI_mk, wL_mk, wR_mk, setR_same, setR_setR, rZ_0, rZ_1, rZ_b2, it_b2, it_nb2, it_b21, it_nb21, I_lt, I_le, I_eq, I_div, castI, if_true, if_false, Classical.not_not, h6, gM26, Int.reduceEq, ev, stM76]
          rfl
        · obtain ⟨gm1, gm2, gm3⟩ := G_min (N := R 66) (g := g) (K := K) (i := k) (w := (j : Int)) hK2 hK.2 hk q1
          rw [b2_f q1]
          by_cases q2 : canW (R 66) g (R 66 102 + k)
          · rw [b2_t q2]
            simp (disch := first | assumption | omega) only [fX13_layWatch_L172, fX13_layWatch_b237, I_lit, orb_I, I_add, I_sub, I_mul, I_neg, nm_eq, bd0_s, bd2_s, un2_eq, un3_eq, un4_eq, un5_eq, un6_eq, cs2_l, cs2_r, mk_1, mk_2, wI_mk, wL_mk, wR_mk, setR_same, setR_setR, rZ_0, rZ_1, rZ_b2, it_b2, it_nb2, it_b21, it_nb21, I_lt, I_le, I_eq, I_div, castI, if_true, if_false, Classical.not_not, h6, gM26, Int.reduceEq, mwt, M_least, gm1 q2, stM76]
            rfl
          · rw [b2_f q2]
            simp (disch := first | assumption | omega) only [fX13_layWatch_L172, fX13_layWatch_b237, I_lit, orb_I, I_add, I_sub, I_mul, I_neg, nm_eq, bd0_s, bd2_s, un2_eq, un3_eq, un4_eq, un5_eq, un6_eq, cs2_l, cs2_r, mk_1, mk_2, wI_mk, wL_mk, wR_mk, setR_same, setR_setR, rZ_0, rZ_1, rZ_b2, it_b2, it_nb2, it_b21, it_nb21, I_lt, I_le, I_eq, I_div, castI, if_true, if_false, Classical.not_not, h6, gM26, mwt, gm2 q2, stM76]
            rfl
      · intro s h1 h2
        rw [updf_ne (by omega)]; exact c2 s h1 h2
      · intro x h1 h2
        by_cases e : x = j
        · rw [e, updf_same rfl]
        · rw [updf_ne (by omega)]; exact c3 x h1 (by omega)) (by
      intro t ⟨A, ht, c1, c2, c3⟩
      subst ht
      refine ⟨mk (setR R 76 A) w rf, ?_, A, rfl, c1, c2, fun x h1 h2 => c3 x h1 (by omega)⟩
      have h6 : (9 : Int) ≤ ((9 : Nat) : Int) := by omega
      simp (disch := first | assumption | omega) only [fX13_layWatch_L172, un2_eq, I_lit, I_le, h6, if_true])
  refine ⟨A2, ?_, ?_⟩
  · have slr : -1 ≤ slA (R 66) g (R 66 102 + k) ∧ slA (R 66) g (R 66 102 + k) ≤ 1 := by
      unfold slA ii
      (repeat' split) <;> omega
    have h66 : R 66 102 + k = R 66 102 + k := rfl
    have wk : fX13_wakesAt S (mk (setR R 76 A1) w rf) 64 (I (k + 1)) (I (R 66 (64 + g))) = some (I (Gv (Fa (R 66) g K (aT (R 66) g k) 0))) := by
      rw [M_wakesAt hS hr (by omega), setR_same, ew]
    have ekm : k + -1 = k - 1 := by omega
    by_cases q2 : canW (R 66) g (R 66 102 + k)
    · have hne : ¬ (slA (R 66) g (R 66 102 + k) = -1) := fun h => sc1.1 h q2
      rw [b2_t q2] at l2
      have l2' : loopN (fX13_layWatch_L172 S 64 (I g) (I (R 66 (64 + g))) (I k) (b2 (someW (R 66) g (R 66 102 + k))) (I 1) (I (Gv (Fa (R 66) g K (aT (R 66) g k) 0) + 1))) 1000 (I 0, mk (setR R 76 A1) w rf) = some (mk (setR R 76 A2) w rf) := l2
      simp (disch := first | assumption | omega) only [fX13_layWatch_L46, fX13_layWatch_b154, I_lit, orb_I, I_add, I_sub, I_mul, I_neg, nm_eq, bd0_s, bd2_s, un2_eq, un3_eq, un4_eq, un5_eq, un6_eq, cs2_l, cs2_r, mk_1, mk_2, wI_mk, wL_mk, wR_mk, setR_same, setR_setR, rZ_0, rZ_1, rZ_b2, it_b2, it_nb2, it_b21, it_nb21, I_lt, I_le, I_eq, I_div, castI, if_true, if_false, Classical.not_not, h5, gM14, ldM66, mr, l1, mt, ms, hne, wk, l2', ekm]
    · have hne : (slA (R 66) g (R 66 102 + k) = -1) := sc1.2 q2
      rw [b2_f q2] at l2
      have l2' : loopN (fX13_layWatch_L172 S 64 (I g) (I (R 66 (64 + g))) (I k) (b2 (someW (R 66) g (R 66 102 + k))) (I 0) (I (Gv (Fa (R 66) g K (aT (R 66) g k) 0) + 1))) 1000 (I 0, mk (setR R 76 A1) w rf) = some (mk (setR R 76 A2) w rf) := l2
      simp (disch := first | assumption | omega) only [fX13_layWatch_L46, fX13_layWatch_b154, I_lit, orb_I, I_add, I_sub, I_mul, I_neg, nm_eq, bd0_s, bd2_s, un2_eq, un3_eq, un4_eq, un5_eq, un6_eq, cs2_l, cs2_r, mk_1, mk_2, wI_mk, wL_mk, wR_mk, setR_same, setR_setR, rZ_0, rZ_1, rZ_b2, it_b2, it_nb2, it_b21, it_nb21, I_lt, I_le, I_eq, I_div, castI, if_true, if_false, Classical.not_not, h5, gM14, ldM66, mr, l1, mt, ms, hne, wk, l2', ekm]
  · intro j h1 h2
    by_cases e : j = k
    · rw [e]; exact ⟨d2, d3⟩
    · exact d1 j (by omega) h2
