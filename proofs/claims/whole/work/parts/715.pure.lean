theorem turn_125 {N : Int → Int} {p : Int} (h : 0 ≤ N (48 + p) ∧ N (48 + p) < 4) (hp : 0 ≤ p ∧ p < 8) : turnA N p (125 + N (48 + p)) = N (64 + N (48 + p)) - N (125 + N (48 + p)) := by
  unfold turnA
  rw [updf_ne (by omega), updf_ne (by omega), updf_ne (by omega), updf_same rfl]
theorem WFW_step {N : Int → Int} {g : Int} (wf : WFP N) (wl : WFL N) (ww : WFW N) (hg : 0 ≤ g ∧ g < N 1) : WFW (stepG N g) := by
  intro j h1 h2
  rw [step_ne wf hg (by omega) (by omega) (by omega) (by omega) (by omega)] at h2
  have wn0 := wf.1
  have wn1 := wf.2.1
  have wn3 := wf.2.2.2.1
  rw [step_ne (z := 3) wf hg (by omega) (by omega) (by omega) (by omega) (by omega)]
  by_cases hne : j = g
  · subst hne
    obtain ⟨g1, g2, g4, g5⟩ := WFP_own wf hg
    have hw := ww j h1 h2
    have hle := wl.2.2.2.1 j h1 (by omega)
    by_cases hl : lapA N j
    · refine ⟨fun h3 => absurd (lap_step wf hg ⟨h1, by omega⟩ hl) h3, ?_⟩
      unfold stepG
      rw [ii_t hl]
      exact hw.2
    · have h8 := hw.1 hl
      have t1 := turn_133 (N := N) (p := N (56 + j)) (by omega) (by omega)
      have t2 := turn_133 (N := N) (p := N (60 + j)) (by omega) (by omega)
      rw [g4] at t1
      rw [g5] at t2
      unfold stepG endA waitA ii
      rw [if_neg hl]
      (repeat' split)
      · exact ⟨fun _ => by omega, fun _ => by omega⟩
      · exact ⟨fun _ => by omega, fun _ => by omega⟩
      · rename_i hz _ _ _
        rw [updf_same rfl, updf_ne (by omega)]
        exact ⟨fun _ => by omega, fun _ => by omega⟩
      · rename_i hz _ _ _
        refine ⟨?_, ?_⟩
        · intro h
          exfalso
          apply h
          unfold lapA
          rw [updf_same rfl, has_orb (by omega) (by omega)]
          exact Or.inr rfl
        · rw [updf_ne (by omega), updf_ne (by omega)]
          omega
      · rw [updf_ne (by omega), updf_same rfl]
        refine ⟨fun _ => h8, fun h => hw.2 (by omega)⟩
  · have hw := ww j h1 h2
    rw [step_lap wf hg ⟨h1, by omega⟩ hne]
    rw [step_ne wf hg (by omega) (by omega) (by omega) (by omega) (by omega), step_ne wf hg (by omega) (by omega) (by omega) (by omega) (by omega)]
    exact hw
theorem WFW_up {N : Int → Int} {z v : Int} (ww : WFW N) (wn1 : N 1 ≤ 4) (hz : 102 ≤ z ∧ z < 125 ∧ z ≠ 104) : WFW (updf N z v) := by
  intro j h1 h2
  rw [updf_ne (by omega)] at h2
  unfold lapA
  rw [updf_ne (by omega), updf_ne (by omega), updf_ne (by omega), updf_ne (by omega)]
  exact ww j h1 h2
theorem WFW_fond {N : Int → Int} (ww : WFW N) (wn1 : N 1 ≤ 4) (k : Nat) (hk : k ≤ 8) : WFW (fondG N k) ∧ fondG N k 1 = N 1 := by
  induction k with
  | zero => exact ⟨ww, rfl⟩
  | succ k ih =>
    obtain ⟨i1, i2⟩ := ih (by omega)
    refine ⟨WFW_up i1 (by omega) (by omega), fondG_ne (by omega)⟩
theorem WFW_hourG {N : Int → Int} (wf : WFP N) (wl : WFL N) (ww : WFW N) (k : Nat) (hk : k ≤ N 1) : WFW (hourG N k) := by
  induction k with
  | zero => exact ww
  | succ k ih =>
    obtain ⟨i1, i2, i3⟩ := OKL_hourG wf wl (W8_of wf ww) k (by omega)
    exact WFW_step (OKL_wf wf i1) i1.2.1 (ih (by omega)) (by rw [OKL_n i1 (by omega)]; omega)
theorem WFW_hour {N : Int → Int} (wf : WFP N) (wl : WFL N) (ww : WFW N) : WFW (hourA N) := by
  have wn0 := wf.1
  have wn1 := wf.2.1
  have h1 := WFW_hourG wf wl ww (N 1).toNat (by omega)
  obtain ⟨i1, i2, i3⟩ := OKL_hourG wf wl (W8_of wf ww) (N 1).toNat (by omega)
  have n1 := OKL_n i1 (j := 1) (by omega)
  have n0 := OKL_n i1 (j := 0) (by omega)
  have h2 : WFW (updf (hourG N (N 1).toNat) 103 0) := WFW_up h1 (by omega) (by omega)
  have n2 : updf (hourG N (N 1).toNat) 103 0 1 = N 1 := by rw [updf_ne (by omega), n1]
  unfold hourA restA ii
  split
  · obtain ⟨h3, h4⟩ := WFW_fond h2 (by omega) (hourG N (N 1).toNat 0).toNat (by omega)
    exact WFW_up h3 (by omega) (by omega)
  · exact WFW_up h2 (by omega) (by omega)
theorem WFW_live {N : Int → Int} {a who n : Int} (wf : WFP N) (wl : WFL N) (ww : WFW N) (ok : okA N a who n) (hy : whyA N a who n = 0) : WFW (liveA N a who n) := by
  obtain ⟨o1, o2, o3, o4, o5⟩ := ok
  have wf' := wf
  obtain ⟨wn0, wn1, wn2, wn3, wn4, wn5, wn6, wn7, wfr, wto, wff, wwa, wco, wwd, wgl, wgr, wnk, wda, wdr, wgo, wg1, wg2, wwx⟩ := wf
  have hw := why_wed hy
  unfold liveA
  unfold whyA at hy
  by_cases a0 : a = 0
  · rw [ii_t a0] at hy ⊢
    have hp := o2 (by omega)
    have h1 := (hw (by omega)).1
    have h2 := wwd who (by omega) (by omega)
    have t1 := turn_133 (N := N) (p := who) h1 (by omega)
    have t2 := turn_104 (N := N) (p := who) h1 hp.1
    intro j j1 j2
    rw [AgP_turn h1 hp.1 1 (by omega)] at j2
    unfold lapA
    rw [t2, AgP_turn h1 hp.1 3 (by omega)]
    have hj := ww j j1 j2
    by_cases hne : j = N (48 + who)
    · rw [hne, t1]
      exact ⟨fun _ => by omega, fun _ => rfl⟩
    · unfold turnA
      rw [updf_ne (by omega), updf_ne (by omega), updf_ne (by omega), updf_ne (by omega), updf_ne (by omega), updf_ne (by omega), updf_ne (by omega), updf_ne (by omega)]
      exact hj
  rw [ii_f a0] at hy ⊢
  by_cases a1 : a = 1
  · rw [ii_t a1]; exact WFW_up ww (by omega) (by omega)
  rw [ii_f a1] at hy ⊢
  by_cases a2 : a = 2
  · rw [ii_t a2]
    have ho := othA_r wf' (o2 (by omega)) (hw (by omega)).1
    exact WFW_up ww (by omega) (by omega)
  rw [ii_f a2] at hy ⊢
  have hp := o3 (by omega)
  have gen : ∀ z v : Int, 121 ≤ z → z < 133 → (∀ j, 0 ≤ j → j < N 1 → z = 125 + j → 0 < v → N (133 + j) = 0) → WFW (updf N z v) := by
    intro z v z1 z2 z3 j j1 j2
    rw [updf_ne (by omega)] at j2
    have hj := ww j j1 j2
    unfold lapA
    rw [updf_ne (by omega), updf_ne (by omega), updf_ne (by omega)]
    refine ⟨hj.1, ?_⟩
    by_cases h : 125 + j = z
    · rw [updf_same h]
      exact fun h2 => z3 j j1 j2 h.symm h2
    · rw [updf_ne h]; exact hj.2
  by_cases a3 : a = 3
  · rw [ii_t a3]; exact gen _ _ (by omega) (by omega) (by omega)
  rw [ii_f a3] at hy ⊢
  by_cases a4 : a = 4
  · rw [ii_t a4]; exact gen _ _ (by omega) (by omega) (by omega)
  rw [ii_f a4] at hy ⊢
  refine gen _ _ (by omega) (by omega) ?_
  intro j j1 j2 j3 j4
  have : j = who := by omega
  rw [this]
  exact (ww who hp.1 hp.2).2 (by omega)
noncomputable def hoursN (N : Int → Int) : Nat → Int → Int
  | 0 => N
  | k + 1 => hourA (hoursN N k)
theorem OKL_hoursN {N : Int → Int} (wf : WFP N) (wl : WFL N) (w8 : W8 N) (k : Nat) (hk : k ≤ 600 - N 102) : OKL N (hoursN N k) ∧ hoursN N k 102 = N 102 + k := by
  induction k with
  | zero => exact ⟨⟨AgP_refl N, wl, w8⟩, by simp [hoursN]⟩
  | succ k ih =>
    obtain ⟨i1, i2⟩ := ih (by omega)
    obtain ⟨j1, j2, j3⟩ := OKL_hour wf i1 (by omega)
    refine ⟨j1, ?_⟩
    show hourA (hoursN N k) 102 = _
    rw [j2, i2]
    omega
theorem LOK_hoursN {N : Int → Int} (wf : WFP N) (lo : LOK N) (k : Nat) (hk : k ≤ 600 - N 102) : LOK (hoursN N k) := by
  induction k with
  | zero => exact lo
  | succ k ih =>
    have i := ih (by omega)
    obtain ⟨i1, i2⟩ := OKL_hoursN wf lo.1 (W8_of wf lo.2) k (by omega)
    obtain ⟨j1, j2⟩ := OKL_hoursN wf lo.1 (W8_of wf lo.2) (k + 1) hk
    exact ⟨j1.2.1, WFW_hour (OKL_wf wf i1) i.1 i.2⟩
theorem M_passHours {S : Nat → Nat × Nat} {R : Nat → Int → Int} {w : Nat → Nat → Int64} {rf : Nat → Nat → Option Nat} {n : Int} (hS : SMok S) (hr : RMok rf) (wf : WFP (R 66)) (wl : WFL (R 66)) (w8 : W8 (R 66)) (hn : 0 ≤ n ∧ n ≤ 600) : fX13_passHours S (mk R w rf) 64 (I n) = some (I (min n (600 - R 66 102)), mk (setR R 66 (hoursN (R 66) (min n (600 - R 66 102)).toNat)) w rf) := by
  have hb := wl.1
  generalize hK : min n (600 - R 66 102) = K
  have l1 := loop_seq (f := fX13_passHours_L18 S 64 (I K)) (m := 1000) (fun k => (I k, mk (setR R 66 (hoursN (R 66) k)) w rf)) K.toNat (r := mk (setR R 66 (hoursN (R 66) K.toNat)) w rf) (by omega) (by
    intro k hk
    obtain ⟨i1, i2⟩ := OKL_hoursN wf wl w8 k (by omega)
    have h5 : ¬ (K ≤ (k : Int)) := by omega
    have e := M_oneHour (S := S) (R := setR R 66 (hoursN (R 66) k)) (w := w) hS hr (by rw [setR_same]; exact OKL_wf wf i1) (by rw [setR_same]; exact i1.2.1) (by rw [setR_same]; exact i1.2.2)
    rw [setR_same, setR_setR] at e
    simp (disch := first | assumption | omega) only [fX13_passHours_L18, I_lit, orb_I, I_add, I_sub, I_mul, I_neg, nm_eq, bd0_s, bd2_s, un2_eq, un3_eq, un4_eq, un5_eq, un6_eq, cs2_l, cs2_r, mk_1, mk_2, wI_mk, wL_mk, wR_mk, setR_same, setR_setR, rZ_0, rZ_1, rZ_b2, it_b2, it_nb2, it_b21, it_nb21, I_lt, I_le, I_eq, I_div, castI, if_true, if_false, Classical.not_not, h5, e]
    rfl) (by
    have h5 : (K ≤ (K.toNat : Int)) := by omega
    simp (disch := first | assumption | omega) only [fX13_passHours_L18, I_lit, orb_I, I_add, I_sub, I_mul, I_neg, nm_eq, bd0_s, bd2_s, un2_eq, un3_eq, un4_eq, un5_eq, un6_eq, cs2_l, cs2_r, mk_1, mk_2, wI_mk, wL_mk, wR_mk, setR_same, setR_setR, rZ_0, rZ_1, rZ_b2, it_b2, it_nb2, it_b21, it_nb21, I_lt, I_le, I_eq, I_div, castI, if_true, if_false, Classical.not_not, h5])
  have e0 : (I ((0 : Nat) : Int), mk (setR R 66 (hoursN (R 66) 0)) w rf) = ((0 : Int32), mk R w rf) := by
    show (I 0, mk (setR R 66 (R 66)) w rf) = _
    rw [setR_id]; rfl
  simp only [e0] at l1
  have h1 : fX13_least S (mk R w rf) (I n) (I (600 - R 66 102)) = some (I K) := by
    rw [M_least (by omega) (by omega), hK]
  simp only [fX13_passHours]
  simp (disch := first | assumption | omega) only [I_lit, orb_I, I_add, I_sub, I_mul, I_neg, nm_eq, bd0_s, bd2_s, un2_eq, un3_eq, un4_eq, un5_eq, un6_eq, cs2_l, cs2_r, mk_1, mk_2, wI_mk, wL_mk, wR_mk, setR_same, setR_setR, rZ_0, rZ_1, rZ_b2, it_b2, it_nb2, it_b21, it_nb21, I_lt, I_le, I_eq, I_div, castI, if_true, if_false, Classical.not_not, gM14, ldM66, h1]
  have e1 : ((I 0, mk R w rf) : Int32 × mm) = ((0 : Int32), mk R w rf) := rfl
  rw [e1, l1]
  rfl
theorem C_passHours {S : Nat → Nat × Nat} {Q : Nat → Int → Int} {w : Nat → Nat → Int64} {rf : Nat → Nat → Option Nat} {N : Int → Int} {l : Nat} {n : Int} (hS : SCok S) (hr : RCok rf) (hl : isLife l) (wf : WFP N) (wl : WFL N) (w8 : W8 N) (cp : CP 67 Q N) (cl : CL l Q N) (hn : 0 ≤ n ∧ n ≤ 600 - N 102) : ∃ Q', fX3_passHours S (mk Q w rf) l (I n) = some (mk Q' w rf) ∧ CL l Q' (hoursN N n.toNat) ∧ FrL l Q Q' := by
  have hb := wl.1
  obtain ⟨τ, h1, Q1, rfl, a1, a2⟩ := loop_inv (f := fX3_passHours_L2 S l (I n)) (m := 1000) (s := ((0 : Int32), mk Q w rf)) (fun k s => ∃ Q', s = (I k, mk Q' w rf) ∧ CL l Q' (hoursN N k) ∧ FrL l Q Q') (fun r => ∃ Q', r = mk Q' w rf ∧ CL l Q' (hoursN N n.toNat) ∧ FrL l Q Q') n.toNat (by omega) ⟨Q, rfl, cl, FrL_refl l Q⟩ (by
      intro k t hk ⟨Q', ht, b1, b2⟩
      subst ht
      left
      obtain ⟨i1, i2⟩ := OKL_hoursN wf wl w8 k (by omega)
      have h5 : ¬ (n ≤ (k : Int)) := by omega
      obtain ⟨Q2, c1, c2, c3⟩ := C_passHour (w := w) hS hr hl (OKL_wf wf i1) i1.2.1 i1.2.2 (CP_fr cp wf hl b2 i1.1) b1
      refine ⟨(I ((k + 1 : Nat) : Int), mk Q2 w rf), ?_, Q2, rfl, c2, FrL_trans b2 c3⟩
      simp (disch := first | assumption | omega) only [fX3_passHours_L2, I_lit, orb_I, I_add, I_sub, I_mul, I_neg, nm_eq, bd0_s, bd2_s, un2_eq, un3_eq, un4_eq, un5_eq, un6_eq, cs2_l, cs2_r, mk_1, mk_2, wI_mk, wL_mk, wR_mk, setR_same, setR_setR, rZ_0, rZ_1, rZ_b2, it_b2, it_nb2, it_b21, it_nb21, I_lt, I_le, I_eq, I_div, castI, if_true, if_false, Classical.not_not, h5, c1]
      rfl) (by
      intro t ⟨Q', ht, b1, b2⟩
      subst ht
      have h5 : (n ≤ (n.toNat : Int)) := by omega
      refine ⟨mk Q' w rf, ?_, Q', rfl, b1, b2⟩
      simp (disch := first | assumption | omega) only [fX3_passHours_L2, I_lit, orb_I, I_add, I_sub, I_mul, I_neg, nm_eq, bd0_s, bd2_s, un2_eq, un3_eq, un4_eq, un5_eq, un6_eq, cs2_l, cs2_r, mk_1, mk_2, wI_mk, wL_mk, wR_mk, setR_same, setR_setR, rZ_0, rZ_1, rZ_b2, it_b2, it_nb2, it_b21, it_nb21, I_lt, I_le, I_eq, I_div, castI, if_true, if_false, Classical.not_not, h5])
  refine ⟨Q1, ?_, a1, a2⟩
  simp only [fX3_passHours, h1]
  rfl
