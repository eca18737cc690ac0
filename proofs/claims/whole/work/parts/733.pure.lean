def chA (N : Int → Int) (g n : Int) : Prop := ∃ e, EndAt N g (N 102) n e ∧ e < 600 ∧ wilA N (N (56 + g)) e ∧ wilA N (N (60 + g)) e
noncomputable def cnA (N : Int → Int) (g : Int) : Nat → Int
  | 0 => 0
  | n + 1 => ii (chA N g ((n + 1 : Nat) : Int)) (cnA N g n + 1) (cnA N g n)
noncomputable def mxA (N : Int → Int) (g : Int) : Nat → Int
  | 0 => -1
  | n + 1 => ii (chA N g ((n + 1 : Nat) : Int)) ((n + 1 : Nat) : Int) (mxA N g n)
theorem cn_t {N : Int → Int} {g : Int} {a k : Nat} (h : ∀ n : Nat, a < n → n ≤ a + k → chA N g n) : cnA N g (a + k) = cnA N g a + k ∧ (0 < k → mxA N g (a + k) = ((a + k : Nat) : Int)) := by
  induction k with
  | zero => exact ⟨by simp, fun h => by omega⟩
  | succ k ih =>
    obtain ⟨i1, i2⟩ := ih (fun n h1 h2 => h n h1 (by omega))
    have hc := h (a + k + 1) (by omega) (by omega)
    refine ⟨?_, fun _ => ?_⟩
    · have e : cnA N g (a + (k + 1)) = ii (chA N g ((a + k + 1 : Nat) : Int)) (cnA N g (a + k) + 1) (cnA N g (a + k)) := rfl
      rw [e, ii_t hc, i1]
      omega
    · have e : mxA N g (a + (k + 1)) = ii (chA N g ((a + k + 1 : Nat) : Int)) ((a + k + 1 : Nat) : Int) (mxA N g (a + k)) := rfl
      rw [e, ii_t hc]
      rfl
theorem cn_f {N : Int → Int} {g : Int} {a k : Nat} (h : ∀ n : Nat, a < n → n ≤ a + k → ¬ chA N g n) : cnA N g (a + k) = cnA N g a ∧ mxA N g (a + k) = mxA N g a := by
  induction k with
  | zero => exact ⟨rfl, rfl⟩
  | succ k ih =>
    obtain ⟨i1, i2⟩ := ih (fun n h1 h2 => h n h1 (by omega))
    have hc := h (a + k + 1) (by omega) (by omega)
    refine ⟨?_, ?_⟩
    · have e : cnA N g (a + (k + 1)) = ii (chA N g ((a + k + 1 : Nat) : Int)) (cnA N g (a + k) + 1) (cnA N g (a + k)) := rfl
      rw [e, ii_f hc, i1]
    · have e : mxA N g (a + (k + 1)) = ii (chA N g ((a + k + 1 : Nat) : Int)) ((a + k + 1 : Nat) : Int) (mxA N g (a + k)) := rfl
      rw [e, ii_f hc, i2]
theorem cn_r {N : Int → Int} {g : Int} (n : Nat) : (0 ≤ cnA N g n ∧ cnA N g n ≤ n) ∧ (-1 ≤ mxA N g n ∧ mxA N g n ≤ n) := by
  induction n with
  | zero => simp [cnA, mxA]
  | succ n ih =>
    unfold cnA mxA ii
    refine ⟨?_, ?_⟩
    · split <;> omega
    · split <;> omega
theorem sumR_mono {N : Int → Int} {g h : Int} {a b : Nat} (wl : WFL N) (hg : 0 ≤ g ∧ g < 4) (hab : a ≤ b) : sumR N g h a ≤ sumR N g h b := by
  induction b with
  | zero =>
    have : a = 0 := by omega
    rw [this]
    omega
  | succ b ih =>
    by_cases h1 : a = b + 1
    · rw [h1]
      omega
    · have := ih (by omega)
      have hr := runA_r (h := h + b) wl hg
      simp only [sumR]
      omega
theorem EndAt_at {N : Int → Int} {g n : Int} {k : Nat} (wl : WFL N) (hg : 0 ≤ g ∧ g < 4) (hk : N 102 + k + 1 < 600) (h1 : sumR N g (N 102) k < n) (h2 : n ≤ sumR N g (N 102) (k + 1)) : EndAt N g (N 102) n (N 102 + k + 1) := by
  have hb := wl.1
  refine ⟨by omega, fun j h3 h4 => ?_, fun _ => ?_⟩
  · have := sumR_mono (h := N 102) wl hg (show (j - N 102).toNat ≤ k by omega)
    omega
  · have e : (N 102 + (k : Int) + 1 - N 102).toNat = k + 1 := by omega
    rw [e]; exact h2
theorem ch_at {N : Int → Int} {g n : Int} {k : Nat} (wl : WFL N) (hg : 0 ≤ g ∧ g < 4) (hk : N 102 + k + 1 < 600) (h1 : sumR N g (N 102) k < n) (h2 : n ≤ sumR N g (N 102) (k + 1)) : chA N g n ↔ (wilA N (N (56 + g)) (N 102 + k + 1) ∧ wilA N (N (60 + g)) (N 102 + k + 1)) := by
  have ea := EndAt_at wl hg hk h1 h2
  constructor
  · intro ⟨e, h3, h4, h5⟩
    have := EndAt_u h3 ea
    rw [this] at h5
    exact h5
  · intro h
    exact ⟨_, ea, by omega, h⟩
theorem ch_no {N : Int → Int} {g n : Int} (wl : WFL N) (hg : 0 ≤ g ∧ g < 4) (hn : 1 ≤ n) (h1 : sumR N g (N 102) (599 - N 102).toNat < n) : ¬ chA N g n := by
  have hb := wl.1
  intro ⟨e, ⟨h3, h4, h5⟩, h6, _⟩
  have h7 := h5 h6
  by_cases hh : N 102 = 600
  · omega
  · have := sumR_mono (h := N 102) wl hg (show (e - N 102).toNat ≤ (599 - N 102).toNat by omega)
    omega
theorem C_both {S : Nat → Nat × Nat} {Q : Nat → Int → Int} {w : Nat → Nat → Int64} {rf : Nat → Nat → Option Nat} {N : Int → Int} {g h : Int} (hS : SCok S) (hr : RCok rf) (wl : WFL N) (fo : FO N g Q) (hh : N 102 ≤ h ∧ h < 600) : fX1_areBothWilling S (mk Q w rf) 186 (I h) = some (b2 (wilA N (N (56 + g)) h ∧ wilA N (N (60 + g)) h)) := by
  obtain ⟨b1, b2', -⟩ := C_hasB (S := S) (w := w) hS hr wl fo hh
  simp (disch := first | assumption | omega) only [fX1_areBothWilling, fX1_areBothWilling_b22, fX1_areBothWilling_b23, I_lit, orb_I, I_add, I_sub, I_mul, I_neg, nm_eq, bd0_s, bd2_s, un2_eq, un3_eq, un4_eq, un5_eq, un6_eq, cs2_l, cs2_r, mk_1, mk_2, wI_mk, wL_mk, wR_mk, setR_same, setR_setR, rZ_0, rZ_1, rZ_b2, it_b2, it_nb2, it_b21, it_nb21, I_lt, I_le, I_eq, I_div, castI, if_true, if_false, Classical.not_not, b1, b2']
  by_cases q1 : wilA N (N (56 + g)) h
  · by_cases q2 : wilA N (N (60 + g)) h
    · rw [b2_t ⟨q1, q2⟩, if_pos q1, if_pos q2]; rfl
    · rw [b2_f (fun h => q2 h.2), if_pos q1, if_neg q2]; rfl
  · rw [b2_f (fun h => q1 h.1), if_neg q1]; rfl
theorem C_weigh {S : Nat → Nat × Nat} {Q : Nat → Int → Int} {w : Nat → Nat → Int64} {rf : Nat → Nat → Option Nat} {N : Int → Int} {g : Int} (hS : SCok S) (hr : RCok rf) (wl : WFL N) (cl : CL 104 Q N) (fo : FO N g Q) (hg : 0 ≤ g ∧ g < 4) : ∃ Q', fX1_weighGrains S (mk Q w rf) 186 = some (mk Q' w rf) ∧ (∀ a, a ≠ 186 → Q' a = Q a) ∧ Q' 186 5 = mxA N g 250 ∧ Q' 186 6 = cnA N g 250 := by
  have hb := wl.1
  generalize hQ0 : setR Q 186 (updf (updf (Q 186) 5 (-1)) 6 0) = Q0
  have q0 : ∀ a, a ≠ 186 → Q0 a = Q a := fun a ha => by rw [← hQ0, setR_ne ha]
  have q04 : Q0 186 4 = g := by rw [← hQ0, setR_same, updf_ne (by omega), updf_ne (by omega)]; exact fo.1
  have q05 : Q0 186 5 = -1 := by rw [← hQ0, setR_same, updf_ne (by omega), updf_same rfl]
  have q06 : Q0 186 6 = 0 := by rw [← hQ0, setR_same, updf_same rfl]
  have fin : ∀ (G : Nat), (∀ n : Nat, G < n → n ≤ 250 → ¬ chA N g n) → G ≤ 250 → mxA N g G = mxA N g 250 ∧ cnA N g G = cnA N g 250 := by
    intro G h1 h2
    obtain ⟨i1, i2⟩ := cn_f (N := N) (g := g) (a := G) (k := 250 - G) (fun n h3 h4 => h1 n h3 (by omega))
    have e : G + (250 - G) = 250 := by omega
    rw [e] at i1 i2
    exact ⟨i2.symm, i1.symm⟩
  obtain ⟨τ, h3, Q', rfl, b1, b2, b3⟩ := loop_inv (f := fX1_weighGrains_L20 S 186) (m := 1000) (s := (I 0, I (N 102), mk Q0 w rf)) (fun k s => ∃ Q', s = (I (min 250 (sumR N g (N 102) k)), I (N 102 + k), mk Q' w rf) ∧ (∀ a, a ≠ 186 → Q' a = Q a) ∧ Q' 186 4 = g ∧ Q' 186 5 = mxA N g (min 250 (sumR N g (N 102) k)).toNat ∧ Q' 186 6 = cnA N g (min 250 (sumR N g (N 102) k)).toNat) (fun r => ∃ Q', r = mk Q' w rf ∧ (∀ a, a ≠ 186 → Q' a = Q a) ∧ Q' 186 5 = mxA N g 250 ∧ Q' 186 6 = cnA N g 250) (599 - N 102).toNat (by omega) ⟨Q0, by show _ = (I (min 250 0), I (N 102 + 0), _); rw [Int.add_zero]; rfl, q0, q04, by rw [q05]; rfl, by rw [q06]; rfl⟩ (by
      intro k s hk ⟨Q', hs, b1, b2, b3, b4⟩
      subst hs
      have hsr := sumR_r (h := N 102) wl hg k
      have hrr := runA_r (h := N 102 + k) wl hg
      have h5 : ¬ (599 ≤ N 102 + (k : Int)) := by omega
      by_cases q : 250 ≤ min 250 (sumR N g (N 102) k)
      · right
        have e : (min 250 (sumR N g (N 102) k)).toNat = 250 := by omega
        rw [e] at b3 b4
        refine ⟨mk Q' w rf, ?_, Q', rfl, b1, b3, b4⟩
        simp (disch := first | assumption | omega) only [fX1_weighGrains_L20, I_lit, orb_I, I_add, I_sub, I_mul, I_neg, nm_eq, bd0_s, bd2_s, un2_eq, un3_eq, un4_eq, un5_eq, un6_eq, cs2_l, cs2_r, mk_1, mk_2, wI_mk, wL_mk, wR_mk, setR_same, setR_setR, rZ_0, rZ_1, rZ_b2, it_b2, it_nb2, it_b21, it_nb21, I_lt, I_le, I_eq, I_div, castI, if_true, if_false, Classical.not_not, h5, q]
      · left
        have fo1 : FO N g Q' := ⟨b2, by rw [b1 187 (by omega), b1 188 (by omega)]; exact fo.2⟩
        obtain ⟨er, -⟩ := fo1.2 (N 102 + k) (by omega) (by omega)
        have bw := C_both (S := S) (w := w) (h := N 102 + k + 1) hS hr wl fo1 (by omega)
        have es : sumR N g (N 102) (k + 1) = sumR N g (N 102) k + runA N g (N 102 + k) := rfl
        have em : min 250 (min 250 (sumR N g (N 102) k) + runA N g (N 102 + k)) = min 250 (sumR N g (N 102) (k + 1)) := by omega
        have ek : N 102 + (k : Int) + 1 = N 102 + ((k + 1 : Nat) : Int) := by omega
        by_cases q2 : min 250 (sumR N g (N 102) (k + 1)) ≤ min 250 (sumR N g (N 102) k)
        · have e2 : min 250 (sumR N g (N 102) (k + 1)) = min 250 (sumR N g (N 102) k) := by omega
          refine ⟨(I (min 250 (sumR N g (N 102) (k + 1))), I (N 102 + ((k + 1 : Nat) : Int)), mk Q' w rf), ?_, Q', rfl, b1, b2, by rw [e2]; exact b3, by rw [e2]; exact b4⟩
          simp (disch := first | assumption | omega) only [fX1_weighGrains_L20, fX1_weighGrains_b81, I_lit, orb_I, I_add, I_sub, I_mul, I_neg, nm_eq, bd0_s, bd2_s, un2_eq, un3_eq, un4_eq, un5_eq, un6_eq, cs2_l, cs2_r, mk_1, mk_2, wI_mk, wL_mk, wR_mk, setR_same, setR_setR, rZ_0, rZ_1, rZ_b2, it_b2, it_nb2, it_b21, it_nb21, I_lt, I_le, I_eq, I_div, castI, if_true, if_false, Classical.not_not, h5, q, gC186_2, ldC187, er, mnI_I, em, q2]
          rw [ek]
        · generalize hA : (min 250 (sumR N g (N 102) k)).toNat = A at *
          generalize hB : (min 250 (sumR N g (N 102) (k + 1))).toNat = B at *
          have eB : A + (B - A) = B := by omega
          have ic : ∀ n : Nat, A < n → n ≤ A + (B - A) → (chA N g n ↔ (wilA N (N (56 + g)) (N 102 + k + 1) ∧ wilA N (N (60 + g)) (N 102 + k + 1))) := fun n h1 h2 => ch_at wl hg (by omega) (by omega) (by omega)
          by_cases q3 : wilA N (N (56 + g)) (N 102 + k + 1) ∧ wilA N (N (60 + g)) (N 102 + k + 1)
          · obtain ⟨i1, i2⟩ := cn_t (N := N) (g := g) (a := A) (k := B - A) (fun n h1 h2 => (ic n h1 h2).2 q3)
            have i3 := i2 (by omega)
            rw [eB] at i1 i3
            rw [b2_t q3] at bw
            generalize hQ2 : setR Q' 186 (updf (updf (Q' 186) 5 (min 250 (sumR N g (N 102) (k + 1)))) 6 (cnA N g A + (min 250 (sumR N g (N 102) (k + 1)) - min 250 (sumR N g (N 102) k)))) = Q2
            refine ⟨(I (min 250 (sumR N g (N 102) (k + 1))), I (N 102 + ((k + 1 : Nat) : Int)), mk Q2 w rf), ?_, Q2, rfl, ?_, ?_, ?_, ?_⟩
            · simp (disch := first | assumption | omega) only [fX1_weighGrains_L20, fX1_weighGrains_b81, I_lit, orb_I, I_add, I_sub, I_mul, I_neg, nm_eq, bd0_s, bd2_s, un2_eq, un3_eq, un4_eq, un5_eq, un6_eq, cs2_l, cs2_r, mk_1, mk_2, wI_mk, wL_mk, wR_mk, setR_same, setR_setR, rZ_0, rZ_1, rZ_b2, it_b2, it_nb2, it_b21, it_nb21, I_lt, I_le, I_eq, I_div, castI, if_true, if_false, Classical.not_not, h5, q, gC186_2, ldC187, er, mnI_I, em, q2, bw, Int.reduceEq, updf_ne, b4, hQ2]
              rw [ek]
            · intro a ha
              rw [← hQ2, setR_ne ha, b1 a ha]
            · rw [← hQ2, setR_same, updf_ne (by omega), updf_ne (by omega)]; exact b2
            · rw [← hQ2, setR_same, updf_ne (by omega), updf_same rfl, i3]; omega
            · rw [← hQ2, setR_same, updf_same rfl, i1]; omega
          · obtain ⟨i1, i2⟩ := cn_f (N := N) (g := g) (a := A) (k := B - A) (fun n h1 h2 h3 => q3 ((ic n h1 h2).1 h3))
            rw [eB] at i1 i2
            rw [b2_f q3] at bw
            refine ⟨(I (min 250 (sumR N g (N 102) (k + 1))), I (N 102 + ((k + 1 : Nat) : Int)), mk Q' w rf), ?_, Q', rfl, b1, b2, by rw [i2]; exact b3, by rw [i1]; exact b4⟩
            simp (disch := first | assumption | omega) only [fX1_weighGrains_L20, fX1_weighGrains_b81, I_lit, orb_I, I_add, I_sub, I_mul, I_neg, nm_eq, bd0_s, bd2_s, un2_eq, un3_eq, un4_eq, un5_eq, un6_eq, cs2_l, cs2_r, mk_1, mk_2, wI_mk, wL_mk, wR_mk, setR_same, setR_setR, rZ_0, rZ_1, rZ_b2, it_b2, it_nb2, it_b21, it_nb21, I_lt, I_le, I_eq, I_div, castI, if_true, if_false, Classical.not_not, h5, q, gC186_2, ldC187, er, mnI_I, em, q2, bw]
            rw [ek]) (by
      intro s ⟨Q', hs, b1, b2, b3, b4⟩
      subst hs
      have hsr := sumR_r (h := N 102) wl hg (599 - N 102).toNat
      have h5 : (599 ≤ N 102 + ((599 - N 102).toNat : Int)) := by omega
      obtain ⟨f1, f2⟩ := fin (min 250 (sumR N g (N 102) (599 - N 102).toNat)).toNat (fun n h1 h2 => ch_no wl hg (by omega) (by omega)) (by omega)
      rw [f1] at b3
      rw [f2] at b4
      refine ⟨mk Q' w rf, ?_, Q', rfl, b1, b3, b4⟩
      simp (disch := first | assumption | omega) only [fX1_weighGrains_L20, I_lit, orb_I, I_add, I_sub, I_mul, I_neg, nm_eq, bd0_s, bd2_s, un2_eq, un3_eq, un4_eq, un5_eq, un6_eq, cs2_l, cs2_r, mk_1, mk_2, wI_mk, wL_mk, wR_mk, setR_same, setR_setR, rZ_0, rZ_1, rZ_b2, it_b2, it_nb2, it_b21, it_nb21, I_lt, I_le, I_eq, I_div, castI, if_true, if_false, Classical.not_not, h5])
  refine ⟨Q', ?_, b1, b2, b3⟩
  have c102 := cl.1.1
  simp (disch := first | assumption | omega) only [fX1_weighGrains, fX1_weighGrains_b89, I_lit, orb_I, I_add, I_sub, I_mul, I_neg, nm_eq, bd0_s, bd2_s, un2_eq, un3_eq, un4_eq, un5_eq, un6_eq, cs2_l, cs2_r, mk_1, mk_2, wI_mk, wL_mk, wR_mk, setR_same, setR_setR, rZ_0, rZ_1, rZ_b2, it_b2, it_nb2, it_b21, it_nb21, I_lt, I_le, I_eq, I_div, castI, if_true, if_false, Classical.not_not, hQ0, gC186_1]
  rw [q0 104 (by omega), c102]
  simp only [h3, bd0_s]
theorem M_isChosen {S : Nat → Nat × Nat} {R : Nat → Int → Int} {w : Nat → Nat → Int64} {rf : Nat → Nat → Option Nat} {g n : Int} (hS : SMok S) (hr : RMok rf) (wf : WFP (R 66)) (wl : WFL (R 66)) (hg : 0 ≤ g ∧ g < R 66 1) (hn : 0 ≤ n ∧ n ≤ 250) : fX13_isChosen S (mk R w rf) 64 (I g) (I n) = some (b2 (chA (R 66) g n)) := by
  have hb := wl.1
  have wn0 := wf.1
  have wn1 := wf.2.1
  obtain ⟨g1, g2, g4, g5⟩ := WFP_own wf hg
  obtain ⟨e, h1, h2⟩ := M_endsBy (S := S) (w := w) (g := g) (s := n) hS hr wf wl (by omega) hn
  have er := h2.1
  by_cases h6 : e = 600
  · rw [ii_t h6] at h1
    have : ¬ chA (R 66) g n := by
      intro ⟨e', h3, h4, _⟩
      have := EndAt_u h2 h3
      omega
    rw [b2_f this]
    simp (disch := first | assumption | omega) only [fX13_isChosen, fX13_isChosen_b50, fX13_isChosen_b51, I_lit, orb_I, I_add, I_sub, I_mul, I_neg, nm_eq, bd0_s, bd2_s, un2_eq, un3_eq, un4_eq, un5_eq, un6_eq, cs2_l, cs2_r, mk_1, mk_2, wI_mk, wL_mk, wR_mk, setR_same, setR_setR, rZ_0, rZ_1, rZ_b2, it_b2, it_nb2, it_b21, it_nb21, I_lt, I_le, I_eq, I_div, castI, if_true, if_false, Classical.not_not, h1]
  · rw [ii_f h6] at h1
    have hne : ¬ (e = -1) := by omega
    have m1 := M_isWilling (S := S) (w := w) (R := R) (p := R 66 (56 + g)) (h := e) hS hr wf wl (by omega) (by omega)
    have m2 := M_isWilling (S := S) (w := w) (R := R) (p := R 66 (60 + g)) (h := e) hS hr wf wl (by omega) (by omega)
    have iff : chA (R 66) g n ↔ (wilA (R 66) (R 66 (56 + g)) e ∧ wilA (R 66) (R 66 (60 + g)) e) := by
      constructor
      · intro ⟨e', h3, h4, h5⟩
        have := EndAt_u h3 h2
        rw [this] at h5
        exact h5
      · intro h
        exact ⟨e, h2, by omega, h⟩
    rw [b2_eq iff]
    simp (disch := first | assumption | omega) only [fX13_isChosen, fX13_isChosen_b50, fX13_isChosen_b51, I_lit, orb_I, I_add, I_sub, I_mul, I_neg, nm_eq, bd0_s, bd2_s, un2_eq, un3_eq, un4_eq, un5_eq, un6_eq, cs2_l, cs2_r, mk_1, mk_2, wI_mk, wL_mk, wR_mk, setR_same, setR_setR, rZ_0, rZ_1, rZ_b2, it_b2, it_nb2, it_b21, it_nb21, I_lt, I_le, I_eq, I_div, castI, if_true, if_false, Classical.not_not, h1, hne, gM14, ldM66, m1, m2]
    by_cases q1 : wilA (R 66) (R 66 (56 + g)) e
    · by_cases q2 : wilA (R 66) (R 66 (60 + g)) e
      · rw [b2_t ⟨q1, q2⟩, if_pos q1, if_pos q2]; rfl
      · rw [b2_f (fun h => q2 h.2), if_pos q1, if_neg q2]; rfl
    · rw [b2_f (fun h => q1 h.1), if_neg q1]; rfl
theorem choice_ok {S S' : Nat → Nat × Nat} {Q : Nat → Int → Int} {w : Nat → Nat → Int64} {rf : Nat → Nat → Option Nat} {R : Nat → Int → Int} {v : Nat → Nat → Int64} {rm : Nat → Nat → Option Nat} {g : Int} (hS : SCok S) (hS' : SMok S') (hr : RCok rf) (hr' : RMok rm) (inv : INV Q w rf R v) (hg : -2147483648 ≤ g ∧ g < 2147483648) : ∃ a b Q', fX12_chosen S (mk Q w rf) 64 (I g) = some (I a, mk Q' w rf) ∧ fX12_choices S (mk Q w rf) 64 (I g) = some (I b, mk Q' w rf) ∧ fX13_chosen S' (mk R v rm) 64 (I g) = some (I a, mk (th0 R) v rm) ∧ fX13_choices S' (mk R v rm) 64 (I g) = some (I b, mk (th0 R) v rm) ∧ INV Q' w rf (th0 R) v := by
  have inv0 := INV_th inv
  have r66 : th0 R 66 = R 66 := th0_ne (by omega)
  obtain ⟨ta, ⟨wf, cp, nam⟩, ⟨lo, cl⟩, -⟩ := inv
  have k1 := C_isRunning (S := S) (w := w) hS hr wf cp cl hg
  have m1 := M_isGlass (S := S') (w := v) (R := th0 R) hS' hr' inv0.2.1.1 hg
  have m2 := M_isLapsed (S := S') (w := v) (R := th0 R) (g := g) hS' hr'
  rw [r66] at m1 m2
  have wn1 := wf.2.1
  by_cases h1 : 0 ≤ g ∧ g < R 66 1
  · rw [b2_t h1] at m1
    by_cases h2 : lapA (R 66) g
    · rw [b2_t h2] at m2
      rw [b2_f (fun h => h.2 h2)] at k1
      refine ⟨-1, -1, Q, ?_, ?_, ?_, ?_, inv0⟩
      · simp (disch := first | assumption | omega) only [fX12_chosen, I_lit, orb_I, I_add, I_sub, I_mul, I_neg, nm_eq, bd0_s, bd2_s, un2_eq, un3_eq, un4_eq, un5_eq, un6_eq, cs2_l, cs2_r, mk_1, mk_2, wI_mk, wL_mk, wR_mk, setR_same, setR_setR, rZ_0, rZ_1, rZ_b2, it_b2, it_nb2, it_b21, it_nb21, I_lt, I_le, I_eq, I_div, castI, if_true, if_false, Classical.not_not, k1, not_true]
      · simp (disch := first | assumption | omega) only [fX12_choices, I_lit, orb_I, I_add, I_sub, I_mul, I_neg, nm_eq, bd0_s, bd2_s, un2_eq, un3_eq, un4_eq, un5_eq, un6_eq, cs2_l, cs2_r, mk_1, mk_2, wI_mk, wL_mk, wR_mk, setR_same, setR_setR, rZ_0, rZ_1, rZ_b2, it_b2, it_nb2, it_b21, it_nb21, I_lt, I_le, I_eq, I_div, castI, if_true, if_false, Classical.not_not, k1, not_true]
      · simp only [fX13_chosen, fX13_chosen_b21, th0_I]
        simp (disch := first | assumption | omega) only [I_lit, orb_I, I_add, I_sub, I_mul, I_neg, nm_eq, bd0_s, bd2_s, un2_eq, un3_eq, un4_eq, un5_eq, un6_eq, cs2_l, cs2_r, mk_1, mk_2, wI_mk, wL_mk, wR_mk, setR_same, setR_setR, rZ_0, rZ_1, rZ_b2, it_b2, it_nb2, it_b21, it_nb21, I_lt, I_le, I_eq, I_div, castI, if_true, if_false, Classical.not_not, m1, m2, Int.reduceEq]
      · simp only [fX13_choices, fX13_choices_b21, th0_I]
        simp (disch := first | assumption | omega) only [I_lit, orb_I, I_add, I_sub, I_mul, I_neg, nm_eq, bd0_s, bd2_s, un2_eq, un3_eq, un4_eq, un5_eq, un6_eq, cs2_l, cs2_r, mk_1, mk_2, wI_mk, wL_mk, wR_mk, setR_same, setR_setR, rZ_0, rZ_1, rZ_b2, it_b2, it_nb2, it_b21, it_nb21, I_lt, I_le, I_eq, I_div, castI, if_true, if_false, Classical.not_not, m1, m2, Int.reduceEq]
    · rw [b2_f h2] at m2
      rw [b2_t ⟨h1, h2⟩] at k1
      obtain ⟨Q1, l1, l2, l3⟩ := C_look (S := S) (w := w) hS hr wf lo.1 cp cl h1
      have cl1 : CL 104 Q1 (R 66) := CL_q cl (fun a h1 h2 => l3 a (by omega))
      obtain ⟨Q2, p1, p2, p3, p4⟩ := C_weigh (S := S) (w := w) hS hr lo.1 cl1 l2 (by omega)
      have q3 : ∀ a, a < 186 ∨ 188 < a → Q2 a = Q a := fun a ha => by rw [p2 a (by omega), l3 a ha]
      have mc : ∀ n : Int, 0 ≤ n ∧ n ≤ 250 → fX13_isChosen S' (mk (th0 R) v rm) 64 (I g) (I n) = some (b2 (chA (R 66) g n)) := by
        intro n hn
        have := M_isChosen (S := S') (w := v) (R := th0 R) (g := g) (n := n) hS' hr' inv0.2.1.1 inv0.2.2.1.1.1 (by rw [r66]; exact h1) hn
        rw [r66] at this
        exact this
      refine ⟨mxA (R 66) g 250, cnA (R 66) g 250, Q2, ?_, ?_, ?_, ?_, INV_f inv0 q3⟩
      · simp (disch := first | assumption | omega) only [fX12_chosen, I_lit, orb_I, I_add, I_sub, I_mul, I_neg, nm_eq, bd0_s, bd2_s, un2_eq, un3_eq, un4_eq, un5_eq, un6_eq, cs2_l, cs2_r, mk_1, mk_2, wI_mk, wL_mk, wR_mk, setR_same, setR_setR, rZ_0, rZ_1, rZ_b2, it_b2, it_nb2, it_b21, it_nb21, I_lt, I_le, I_eq, I_div, castI, if_true, if_false, Classical.not_not, k1, Int.reduceEq, not_false_eq_true, gC64_7, l1, p1, p3]
      · simp (disch := first | assumption | omega) only [fX12_choices, I_lit, orb_I, I_add, I_sub, I_mul, I_neg, nm_eq, bd0_s, bd2_s, un2_eq, un3_eq, un4_eq, un5_eq, un6_eq, cs2_l, cs2_r, mk_1, mk_2, wI_mk, wL_mk, wR_mk, setR_same, setR_setR, rZ_0, rZ_1, rZ_b2, it_b2, it_nb2, it_b21, it_nb21, I_lt, I_le, I_eq, I_div, castI, if_true, if_false, Classical.not_not, k1, Int.reduceEq, not_false_eq_true, gC64_7, l1, p1, p4]
      · obtain ⟨r, e1, e2⟩ := loop_inv (f := fX13_chosen_L27 S' (mk (th0 R) v rm) 64 (I g)) (m := 1000) (s := I 250) (fun k s => s = I (250 - k) ∧ k ≤ 250 ∧ mxA (R 66) g (250 - k) = mxA (R 66) g 250) (fun r => (cs2 (fun v5 => some (v5, mk (th0 R) v rm)) (fun (_ : Unit) => some (I (-1), mk (th0 R) v rm))) r = some (I (mxA (R 66) g 250), mk (th0 R) v rm)) 250 (by omega) ⟨rfl, by omega, rfl⟩ (by
          intro k s hk ⟨hs, hk1, hm⟩
          subst hs
          have h5 : ¬ (250 - (k : Int) ≤ 0) := by omega
          have mk1 := mc (250 - k) (by omega)
          have e0 : 250 - k = (250 - (k + 1)) + 1 := by omega
          have e1 : (((250 - (k + 1)) + 1 : Nat) : Int) = 250 - (k : Int) := by omega
          by_cases q : chA (R 66) g (250 - k)
          · right
            refine ⟨.inl (I (250 - k)), ?_, ?_⟩
            · rw [b2_t q] at mk1
              simp (disch := first | assumption | omega) only [fX13_chosen_L27, I_lit, orb_I, I_add, I_sub, I_mul, I_neg, nm_eq, bd0_s, bd2_s, un2_eq, un3_eq, un4_eq, un5_eq, un6_eq, cs2_l, cs2_r, mk_1, mk_2, wI_mk, wL_mk, wR_mk, setR_same, setR_setR, rZ_0, rZ_1, rZ_b2, it_b2, it_nb2, it_b21, it_nb21, I_lt, I_le, I_eq, I_div, castI, if_true, if_false, Classical.not_not, h5, mk1, Int.reduceEq]
            · have : mxA (R 66) g (250 - k) = 250 - (k : Int) := by
                rw [e0]
                show ii _ _ _ = _
                rw [e1, ii_t q]
              rw [← hm, this]
              rfl
          · left
            refine ⟨I (250 - ((k + 1 : Nat) : Int)), ?_, rfl, by omega, ?_⟩
            · rw [b2_f q] at mk1
              have e6 : 250 - (k : Int) + -1 = 250 - ((k + 1 : Nat) : Int) := by omega
              simp (disch := first | assumption | omega) only [fX13_chosen_L27, I_lit, orb_I, I_add, I_sub, I_mul, I_neg, nm_eq, bd0_s, bd2_s, un2_eq, un3_eq, un4_eq, un5_eq, un6_eq, cs2_l, cs2_r, mk_1, mk_2, wI_mk, wL_mk, wR_mk, setR_same, setR_setR, rZ_0, rZ_1, rZ_b2, it_b2, it_nb2, it_b21, it_nb21, I_lt, I_le, I_eq, I_div, castI, if_true, if_false, Classical.not_not, h5, mk1, e6]
            · rw [← hm, e0]
              show _ = ii _ _ _
              rw [e1, ii_f q]) (by
          intro s ⟨hs, hk1, hm⟩
          subst hs
          refine ⟨.inr (), ?_, ?_⟩
          · have e5 : (250 : Int) - ((250 : Nat) : Int) ≤ 0 := by omega
            simp (disch := first | assumption | omega) only [fX13_chosen_L27, I_lit, I_le, e5, if_true]
          · rw [← hm]
            show some (I (-1), _) = some (I (mxA (R 66) g 0), _)
            rfl)
        simp only [fX13_chosen, fX13_chosen_b21, th0_I]
        simp (disch := first | assumption | omega) only [I_lit, orb_I, I_add, I_sub, I_mul, I_neg, nm_eq, bd0_s, bd2_s, un2_eq, un3_eq, un4_eq, un5_eq, un6_eq, cs2_l, cs2_r, mk_1, mk_2, wI_mk, wL_mk, wR_mk, setR_same, setR_setR, rZ_0, rZ_1, rZ_b2, it_b2, it_nb2, it_b21, it_nb21, I_lt, I_le, I_eq, I_div, castI, if_true, if_false, Classical.not_not, m1, m2, Int.reduceEq, e1]
        exact e2
      · have l9 := loop_seq (f := fX13_choices_L27 S' (mk (th0 R) v rm) 64 (I g)) (m := 1000) (fun k => (I (cnA (R 66) g k), I ((k : Int) + 1))) 250 (r := I (cnA (R 66) g 250)) (by omega) (by
          intro k hk
          have h5 : ¬ (250 < (k : Int) + 1) := by omega
          have mk1 := mc (k + 1) (by omega)
          have ek : (((k + 1 : Nat) : Int)) = (k : Int) + 1 := by omega
          show fX13_choices_L27 S' (mk (th0 R) v rm) 64 (I g) (I (cnA (R 66) g k), I ((k : Int) + 1)) = some (Sum.inl (I (ii _ _ _), I (((k + 1 : Nat) : Int) + 1)))
          rw [ek]
          simp (disch := first | assumption | omega) only [fX13_choices_L27, fX13_choices_b46, I_lit, orb_I, I_add, I_sub, I_mul, I_neg, nm_eq, bd0_s, bd2_s, un2_eq, un3_eq, un4_eq, un5_eq, un6_eq, cs2_l, cs2_r, mk_1, mk_2, wI_mk, wL_mk, wR_mk, setR_same, setR_setR, rZ_0, rZ_1, rZ_b2, it_b2, it_nb2, it_b21, it_nb21, I_lt, I_le, I_eq, I_div, castI, if_true, if_false, Classical.not_not, h5, mk1]
          by_cases q : chA (R 66) g ((k : Int) + 1)
          · rw [ii_t q, if_pos q]
          · rw [ii_f q, if_neg q]) (by
          simp (disch := first | assumption | omega) only [fX13_choices_L27, I_lit, orb_I, I_add, I_sub, I_mul, I_neg, nm_eq, bd0_s, bd2_s, un2_eq, un3_eq, un4_eq, un5_eq, un6_eq, cs2_l, cs2_r, mk_1, mk_2, wI_mk, wL_mk, wR_mk, setR_same, setR_setR, rZ_0, rZ_1, rZ_b2, it_b2, it_nb2, it_b21, it_nb21, I_lt, I_le, I_eq, I_div, castI, if_true, if_false, Classical.not_not]
          rfl)
        have e0 : (I (cnA (R 66) g 0), I (((0 : Nat) : Int) + 1)) = (I 0, I 1) := rfl
        simp only [e0] at l9
        simp only [fX13_choices, fX13_choices_b21, th0_I]
        simp (disch := first | assumption | omega) only [I_lit, orb_I, I_add, I_sub, I_mul, I_neg, nm_eq, bd0_s, bd2_s, un2_eq, un3_eq, un4_eq, un5_eq, un6_eq, cs2_l, cs2_r, mk_1, mk_2, wI_mk, wL_mk, wR_mk, setR_same, setR_setR, rZ_0, rZ_1, rZ_b2, it_b2, it_nb2, it_b21, it_nb21, I_lt, I_le, I_eq, I_div, castI, if_true, if_false, Classical.not_not, m1, m2, Int.reduceEq, l9]
  · rw [b2_f h1] at m1
    rw [b2_f (fun h => h1 h.1)] at k1
    refine ⟨-1, -1, Q, ?_, ?_, ?_, ?_, inv0⟩
    · simp (disch := first | assumption | omega) only [fX12_chosen, I_lit, orb_I, I_add, I_sub, I_mul, I_neg, nm_eq, bd0_s, bd2_s, un2_eq, un3_eq, un4_eq, un5_eq, un6_eq, cs2_l, cs2_r, mk_1, mk_2, wI_mk, wL_mk, wR_mk, setR_same, setR_setR, rZ_0, rZ_1, rZ_b2, it_b2, it_nb2, it_b21, it_nb21, I_lt, I_le, I_eq, I_div, castI, if_true, if_false, Classical.not_not, k1, not_true]
    · simp (disch := first | assumption | omega) only [fX12_choices, I_lit, orb_I, I_add, I_sub, I_mul, I_neg, nm_eq, bd0_s, bd2_s, un2_eq, un3_eq, un4_eq, un5_eq, un6_eq, cs2_l, cs2_r, mk_1, mk_2, wI_mk, wL_mk, wR_mk, setR_same, setR_setR, rZ_0, rZ_1, rZ_b2, it_b2, it_nb2, it_b21, it_nb21, I_lt, I_le, I_eq, I_div, castI, if_true, if_false, Classical.not_not, k1, not_true]
    · simp only [fX13_chosen, fX13_chosen_b21, th0_I]
      simp (disch := first | assumption | omega) only [I_lit, orb_I, I_add, I_sub, I_mul, I_neg, nm_eq, bd0_s, bd2_s, un2_eq, un3_eq, un4_eq, un5_eq, un6_eq, cs2_l, cs2_r, mk_1, mk_2, wI_mk, wL_mk, wR_mk, setR_same, setR_setR, rZ_0, rZ_1, rZ_b2, it_b2, it_nb2, it_b21, it_nb21, I_lt, I_le, I_eq, I_div, castI, if_true, if_false, Classical.not_not, m1]
    · simp only [fX13_choices, fX13_choices_b21, th0_I]
      simp (disch := first | assumption | omega) only [I_lit, orb_I, I_add, I_sub, I_mul, I_neg, nm_eq, bd0_s, bd2_s, un2_eq, un3_eq, un4_eq, un5_eq, un6_eq, cs2_l, cs2_r, mk_1, mk_2, wI_mk, wL_mk, wR_mk, setR_same, setR_setR, rZ_0, rZ_1, rZ_b2, it_b2, it_nb2, it_b21, it_nb21, I_lt, I_le, I_eq, I_div, castI, if_true, if_false, Classical.not_not, m1]
theorem op_chosen {S S' : Nat → Nat × Nat} (hS : SCok S) (hS' : SMok S') (a1 : Int32) : OpC1 (fun σ => fX12_chosen S σ 64 a1) (fun σ => fX13_chosen S' σ 64 a1) := by
  intro t σC σM ⟨Q, w, rf, R, v, rm, q1, q2, hr, hr', inv, tx⟩; subst q1; subst q2
  obtain ⟨g, rfl, hg⟩ := exI a1
  obtain ⟨a, b, Q', e1, e2, e3, e4, e5⟩ := choice_ok (S := S) (S' := S') hS hS' hr hr' inv hg
  exact ⟨I a, mk Q' w rf, mk (th0 R) v rm, e1, e3, Q', w, rf, th0 R, v, rm, rfl, rfl, hr, hr', e5, tx0 tx⟩
theorem op_choices {S S' : Nat → Nat × Nat} (hS : SCok S) (hS' : SMok S') (a1 : Int32) : OpC1 (fun σ => fX12_choices S σ 64 a1) (fun σ => fX13_choices S' σ 64 a1) := by
  intro t σC σM ⟨Q, w, rf, R, v, rm, q1, q2, hr, hr', inv, tx⟩; subst q1; subst q2
  obtain ⟨g, rfl, hg⟩ := exI a1
  obtain ⟨a, b, Q', e1, e2, e3, e4, e5⟩ := choice_ok (S := S) (S' := S') hS hS' hr hr' inv hg
  exact ⟨I b, mk Q' w rf, mk (th0 R) v rm, e2, e4, Q', w, rf, th0 R, v, rm, rfl, rfl, hr, hr', e5, tx0 tx⟩
