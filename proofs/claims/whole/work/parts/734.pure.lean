theorem wil_cong {N M : Int → Int} {p : Int} (agP : AgP N M) (hp : 0 ≤ p ∧ p < 8) (h102 : M 102 = N 102) (h103 : M 103 = N 103) (hf : M (105 + p) = N (105 + p)) : wilA M p (M 102) ↔ wilA N p (N 102) := by
  unfold wilA awkA wokA
  rw [fdA_now, fdA_now, agP (8 + p) (by omega), agP (16 + p) (by omega), agP 4 (by omega), h102, h103, hf]
theorem damp_cong {N M : Int → Int} {h : Int} (wf : WFP N) (agP : AgP N M) : dampA M h ↔ dampA N h := by
  have w7 := wf.2.2.2.2.2.2.2.1
  unfold dampA
  rw [agP 7 (by omega)]
  constructor
  · intro ⟨k, h1, h2, h3, h4⟩
    rw [agP (72 + k) (by omega)] at h3
    rw [agP (78 + k) (by omega)] at h4
    exact ⟨k, h1, h2, h3, h4⟩
  · intro ⟨k, h1, h2, h3, h4⟩
    refine ⟨k, h1, h2, ?_, ?_⟩
    · rw [agP (72 + k) (by omega)]; exact h3
    · rw [agP (78 + k) (by omega)]; exact h4
theorem run_cong {N M : Int → Int} {g h : Int} (wf : WFP N) (agP : AgP N M) (h1 : M (129 + g) = N (129 + g)) (h2 : M (121 + g) = N (121 + g)) : runA M g h = runA N g h := by
  unfold runA
  rw [h1, h2, propext (damp_cong wf agP)]
theorem hourG_ne {N : Int → Int} (wf : WFP N) (wl : WFL N) (w8 : W8 N) (k : Nat) (hk : k ≤ N 1) {z : Int} (h4 : z ≠ 104) (h5 : z < 113 ∨ (121 ≤ z ∧ z < 125) ∨ (129 ≤ z ∧ z < 133)) : hourG N k z = N z := by
  have wn1 := wf.2.1
  induction k with
  | zero => rfl
  | succ k ih =>
    obtain ⟨i1, i2, i3⟩ := OKL_hourG wf wl w8 k (by omega)
    show stepG (hourG N k) k z = _
    rw [step_ne (OKL_wf wf i1) (by rw [OKL_n i1 (by omega)]; omega) (by omega) (by omega) (by omega) h4 (by omega)]
    exact ih (by omega)
theorem hourG_pre {N : Int → Int} (wf : WFP N) (wl : WFL N) (w8 : W8 N) (k : Nat) (hk : k ≤ N 1) {g : Int} (hg : 0 ≤ g ∧ g < N 1) (hkg : k ≤ g) : hourG N k (125 + g) = N (125 + g) ∧ hourG N k (133 + g) = N (133 + g) ∧ (lapA (hourG N k) g ↔ lapA N g) := by
  have wn1 := wf.2.1
  induction k with
  | zero => exact ⟨rfl, rfl, Iff.rfl⟩
  | succ k ih =>
    obtain ⟨j1, j2, j3⟩ := ih (by omega) (by omega)
    obtain ⟨i1, i2, i3⟩ := OKL_hourG wf wl w8 k (by omega)
    have wf' := OKL_wf wf i1
    have hk' : 0 ≤ (k : Int) ∧ (k : Int) < hourG N k 1 := by rw [OKL_n i1 (by omega)]; omega
    refine ⟨?_, ?_, ?_⟩
    · show stepG (hourG N k) k (125 + g) = _
      rw [step_ne wf' hk' (by omega) (by omega) (by omega) (by omega) (by omega), j1]
    · show stepG (hourG N k) k (133 + g) = _
      rw [step_ne wf' hk' (by omega) (by omega) (by omega) (by omega) (by omega), j2]
    · show lapA (stepG (hourG N k) k) g ↔ _
      rw [step_lap wf' hk' (by omega) (by omega), j3]
theorem hourG_post {N : Int → Int} (wf : WFP N) (wl : WFL N) (w8 : W8 N) {g : Nat} (hg : (g : Int) < N 1) (k : Nat) (hk : g + 1 + k ≤ N 1) : hourG N (g + 1 + k) (125 + g) = hourG N (g + 1) (125 + g) ∧ hourG N (g + 1 + k) (133 + g) = hourG N (g + 1) (133 + g) ∧ (lapA (hourG N (g + 1 + k)) g ↔ lapA (hourG N (g + 1)) g) := by
  have wn1 := wf.2.1
  induction k with
  | zero => exact ⟨rfl, rfl, Iff.rfl⟩
  | succ k ih =>
    obtain ⟨j1, j2, j3⟩ := ih (by omega)
    obtain ⟨i1, i2, i3⟩ := OKL_hourG wf wl w8 (g + 1 + k) (by omega)
    have wf' := OKL_wf wf i1
    have hk' : 0 ≤ ((g + 1 + k : Nat) : Int) ∧ ((g + 1 + k : Nat) : Int) < hourG N (g + 1 + k) 1 := by rw [OKL_n i1 (by omega)]; omega
    refine ⟨?_, ?_, ?_⟩
    · show stepG (hourG N (g + 1 + k)) ((g + 1 + k : Nat) : Int) (125 + g) = _
      rw [step_ne wf' hk' (by omega) (by omega) (by omega) (by omega) (by omega), j1]
    · show stepG (hourG N (g + 1 + k)) ((g + 1 + k : Nat) : Int) (133 + g) = _
      rw [step_ne wf' hk' (by omega) (by omega) (by omega) (by omega) (by omega), j2]
    · show lapA (stepG (hourG N (g + 1 + k)) ((g + 1 + k : Nat) : Int)) g ↔ _
      rw [step_lap wf' hk' (by omega) (by omega), j3]
noncomputable def gL (N : Int → Int) (g : Int) : Int := ii (lapA N g) (N (125 + g)) (ii (N (125 + g) = 0) (ii (someW N g (N 102)) (N (64 + g)) 0) (N (125 + g) - min (N (125 + g)) (runA N g (N 102))))
noncomputable def gW (N : Int → Int) (g : Int) : Int := ii (lapA N g) (N (133 + g)) (ii (N (125 + g) = 0) (ii (someW N g (N 102)) 0 (N (133 + g) + 1)) (N (133 + g)))
def gX (N : Int → Int) (g : Int) : Prop := lapA N g ∨ (N (125 + g) = 0 ∧ ¬ someW N g (N 102) ∧ N 3 ≤ N (133 + g) + 1)
theorem step_loc {N : Int → Int} {g : Int} (wf : WFP N) (hg : 0 ≤ g ∧ g < N 1) : stepG N g (125 + g) = gL N g ∧ stepG N g (133 + g) = gW N g ∧ (lapA (stepG N g) g ↔ gX N g) := by
  have wn0 := wf.1
  have wn1 := wf.2.1
  obtain ⟨g1, g2, g4, g5⟩ := WFP_own wf hg
  have t1 := turn_133 (N := N) (p := N (56 + g)) (by omega) (by omega)
  have t2 := turn_133 (N := N) (p := N (60 + g)) (by omega) (by omega)
  have u1 := turn_125 (N := N) (p := N (56 + g)) (by omega) (by omega)
  have u2 := turn_125 (N := N) (p := N (60 + g)) (by omega) (by omega)
  have v1 := turn_104 (N := N) (p := N (56 + g)) (by omega) (by omega)
  have v2 := turn_104 (N := N) (p := N (60 + g)) (by omega) (by omega)
  rw [g4] at t1 u1
  rw [g5] at t2 u2
  by_cases hl : lapA N g
  · unfold stepG gL gW gX
    simp only [ii_t hl]
    exact ⟨trivial, trivial, ⟨fun h => Or.inl h, fun _ => hl⟩⟩
  · by_cases hz : N (125 + g) = 0
    · by_cases q1 : wilA N (N (56 + g)) (N 102)
      · have qs : someW N g (N 102) := Or.inl q1
        have e : stepG N g = turnA N (N (56 + g)) := by
          unfold stepG endA
          rw [ii_f hl, ii_t hz, ii_t q1]
        rw [e]
        unfold gL gW gX lapA
        unfold lapA at hl
        rw [ii_f hl, ii_t hz, ii_t qs, ii_f hl, ii_t hz, ii_t qs, u1, t1, v1]
        refine ⟨by omega, rfl, ⟨fun h => absurd h hl, fun h => ?_⟩⟩
        rcases h with h | h
        · exact h
        · exact absurd qs h.2.1
      · by_cases q2 : wilA N (N (60 + g)) (N 102)
        · have qs : someW N g (N 102) := Or.inr q2
          have e : stepG N g = turnA N (N (60 + g)) := by
            unfold stepG endA
            rw [ii_f hl, ii_t hz, ii_f q1, ii_t q2]
          rw [e]
          unfold gL gW gX lapA
          unfold lapA at hl
          rw [ii_f hl, ii_t hz, ii_t qs, ii_f hl, ii_t hz, ii_t qs, u2, t2, v2]
          refine ⟨by omega, rfl, ⟨fun h => absurd h hl, fun h => ?_⟩⟩
          rcases h with h | h
          · exact h
          · exact absurd qs h.2.1
        · have qs : ¬ someW N g (N 102) := fun h => by
            rcases h with h | h
            · exact q1 h
            · exact q2 h
          have e : stepG N g = waitA N g := by
            unfold stepG endA
            rw [ii_f hl, ii_t hz, ii_f q1, ii_f q2]
          rw [e]
          unfold gL gW gX
          rw [ii_f hl, ii_t hz, ii_f qs, ii_f hl, ii_t hz, ii_f qs]
          unfold waitA
          by_cases q3 : N (133 + g) + 1 < N 3
          · rw [ii_t q3]
            refine ⟨by rw [updf_ne (by omega)]; exact hz, updf_same rfl, ?_⟩
            unfold lapA
            rw [updf_ne (by omega)]
            unfold lapA at hl
            exact ⟨fun h => absurd h hl, fun h => by
              rcases h with h | h
              · exact h
              · omega⟩
          · rw [ii_f q3]
            refine ⟨by rw [updf_ne (by omega), updf_ne (by omega)]; exact hz, by rw [updf_ne (by omega), updf_same rfl], ?_⟩
            unfold lapA
            rw [updf_same rfl, has_orb (by omega) (by omega)]
            exact ⟨fun _ => Or.inr ⟨hz, qs, by omega⟩, fun _ => Or.inr rfl⟩
    · have e : stepG N g = updf N (125 + g) (N (125 + g) - min (N (125 + g)) (runA N g (N 102))) := by
        unfold stepG
        rw [ii_f hl, ii_f hz]
      rw [e]
      unfold gL gW gX
      rw [ii_f hl, ii_f hz, ii_f hl, ii_f hz]
      refine ⟨updf_same rfl, by rw [updf_ne (by omega)], ?_⟩
      unfold lapA
      rw [updf_ne (by omega)]
      unfold lapA at hl
      exact ⟨fun h => absurd h hl, fun h => by
        rcases h with h | h
        · exact h
        · exact absurd h.1 hz⟩
theorem hour_g {N : Int → Int} {g : Int} (wf : WFP N) (wl : WFL N) (w8 : W8 N) (hg : 0 ≤ g ∧ g < N 1) : hourA N (125 + g) = gL N g ∧ hourA N (133 + g) = gW N g ∧ (lapA (hourA N) g ↔ gX N g) := by
  have wn0 := wf.1
  have wn1 := wf.2.1
  obtain ⟨gn, hgn⟩ : ∃ gn : Nat, g = gn := ⟨g.toNat, by omega⟩
  obtain ⟨i1, i2, i3⟩ := OKL_hourG wf wl w8 gn (by omega)
  have wf' := OKL_wf wf i1
  have n1 := OKL_n i1 (j := 1) (by omega)
  obtain ⟨p1, p2, p3⟩ := hourG_pre wf wl w8 gn (by omega) hg (by omega)
  obtain ⟨s1, s2, s3⟩ := step_loc wf' (g := g) (by omega)
  obtain ⟨g1, g2, g4, g5⟩ := WFP_own wf hg
  have a56 : hourG N gn (56 + g) = N (56 + g) := i1.1 _ (by omega)
  have a60 : hourG N gn (60 + g) = N (60 + g) := i1.1 _ (by omega)
  have a64 : hourG N gn (64 + g) = N (64 + g) := i1.1 _ (by omega)
  have a3 : hourG N gn 3 = N 3 := i1.1 _ (by omega)
  have ne := fun z h4 h5 => hourG_ne wf wl w8 gn (by omega) (z := z) h4 h5
  have hs : someW (hourG N gn) g (hourG N gn 102) ↔ someW N g (N 102) := by
    unfold someW
    rw [a56, a60, wil_cong i1.1 (by omega) i2 i3 (ne _ (by omega) (by omega)), wil_cong i1.1 (by omega) i2 i3 (ne _ (by omega) (by omega))]
  have hrn : runA (hourG N gn) g (hourG N gn 102) = runA N g (N 102) := by
    rw [i2]
    exact run_cong wf i1.1 (ne _ (by omega) (by omega)) (ne _ (by omega) (by omega))
  have eL : gL (hourG N gn) g = gL N g := by
    unfold gL
    rw [p1, a64, hrn, propext p3, propext hs]
  have eW : gW (hourG N gn) g = gW N g := by
    unfold gW
    rw [p1, p2, propext p3, propext hs]
  have eX : gX (hourG N gn) g ↔ gX N g := by
    unfold gX
    rw [p1, p2, a3, p3, hs]
  have sg : stepG (hourG N gn) g = hourG N (gn + 1) := by rw [hgn]; rfl
  rw [sg] at s1 s2 s3
  obtain ⟨q1, q2, q3⟩ := hourG_post wf wl w8 (g := gn) (by omega) ((N 1).toNat - (gn + 1)) (by omega)
  have en : gn + 1 + ((N 1).toNat - (gn + 1)) = (N 1).toNat := by omega
  rw [en, ← hgn] at q1 q2 q3
  have rr : ∀ (M : Int → Int) (z : Int), M 0 ≤ 8 → z ≠ 103 → (z < 105 ∨ 113 ≤ z) → restA M z = M z := by
    intro M z h0 h1 h2
    unfold restA ii
    split
    · rw [fondG_ne (by omega), updf_ne h1]
    · rw [updf_ne h1]
  obtain ⟨k1, k2, k3⟩ := OKL_hourG wf wl w8 (N 1).toNat (by omega)
  have n0 : hourG N (N 1).toNat 0 ≤ 8 := by rw [OKL_n k1 (by omega)]; omega
  refine ⟨?_, ?_, ?_⟩
  · unfold hourA
    rw [updf_ne (by omega), rr _ _ n0 (by omega) (by omega), q1, s1, eL]
  · unfold hourA
    rw [updf_ne (by omega), rr _ _ n0 (by omega) (by omega), q2, s2, eW]
  · have : lapA (hourA N) g ↔ lapA (hourG N (N 1).toNat) g := by
      unfold lapA hourA
      rw [updf_ne (by omega), rr _ _ n0 (by omega) (by omega)]
    rw [this, q3, s3, eX]
theorem hour_k {N : Int → Int} (wf : WFP N) (wl : WFL N) (w8 : W8 N) : (∀ z, (121 ≤ z ∧ z < 125) ∨ (129 ≤ z ∧ z < 133) → hourA N z = N z) ∧ (∀ p, 0 ≤ p → p < N 0 → hourA N (105 + p) = ii (N 102 % 24 = 23) (fndA N p (N (105 + p))) (N (105 + p))) ∧ hourA N 103 = 0 ∧ hourA N 102 = N 102 + 1 := by
  have wn0 := wf.1
  have wn1 := wf.2.1
  obtain ⟨k1, k2, k3⟩ := OKL_hourG wf wl w8 (N 1).toNat (by omega)
  have n0 : hourG N (N 1).toNat 0 = N 0 := OKL_n k1 (by omega)
  have ne := fun z h4 h5 => hourG_ne wf wl w8 (N 1).toNat (by omega) (z := z) h4 h5
  refine ⟨fun z hz => ?_, fun p h1 h2 => ?_, ?_, updf_same rfl⟩
  · unfold hourA restA
    rw [updf_ne (by omega)]
    unfold ii
    split
    · rw [fondG_ne (by omega), updf_ne (by omega), ne z (by omega) (by omega)]
    · rw [updf_ne (by omega), ne z (by omega) (by omega)]
  · unfold hourA restA
    rw [updf_ne (by omega), k2]
    by_cases h : N 102 % 24 = 23
    · rw [ii_t h, ii_t h, fondG_at (by omega) (by omega), ii_t (by omega)]
      unfold fndA
      rw [updf_ne (by omega), updf_ne (by omega), updf_ne (by omega), ne (105 + p) (by omega) (by omega), ne (32 + p) (by omega) (by omega), ne (40 + p) (by omega) (by omega)]
    · rw [ii_f h, ii_f h, updf_ne (by omega), ne (105 + p) (by omega) (by omega)]
  · unfold hourA restA
    rw [updf_ne (by omega)]
    unfold ii
    split
    · rw [fondG_ne (by omega), updf_same rfl]
    · rw [updf_same rfl]
theorem hours_k {N : Int → Int} (wf : WFP N) (wl : WFL N) (w8 : W8 N) (k : Nat) (hk : k ≤ 600 - N 102) : (∀ z, (121 ≤ z ∧ z < 125) ∨ (129 ≤ z ∧ z < 133) → hoursN N k z = N z) ∧ (∀ p, 0 ≤ p → p < N 0 → hoursN N k (105 + p) = fdK N p k) ∧ (0 < k → hoursN N k 103 = 0) := by
  induction k with
  | zero => exact ⟨fun z h => rfl, fun p h1 h2 => rfl, fun h => by omega⟩
  | succ k ih =>
    obtain ⟨j1, j2, j3⟩ := ih (by omega)
    obtain ⟨i1, i2⟩ := OKL_hoursN wf wl w8 k (by omega)
    obtain ⟨a1, a2, a3, a4⟩ := hour_k (OKL_wf wf i1) i1.2.1 i1.2.2
    have wn0 := wf.1
    refine ⟨fun z hz => ?_, fun p h1 h2 => ?_, fun _ => a3⟩
    · show hourA (hoursN N k) z = _
      rw [a1 z hz, j1 z hz]
    · show hourA (hoursN N k) (105 + p) = _
      rw [a2 p h1 (by rw [OKL_n i1 (by omega)]; exact h2), i2, j2 p h1 h2]
      show _ = ii _ _ _
      unfold fndA
      rw [i1.1 (32 + p) (by omega), i1.1 (40 + p) (by omega)]
theorem zero_has {p : Int} (hp : 0 ≤ p ∧ p < 8) : ¬ hasA (I 0) p := by
  rw [hasA_bit hp]
  have : (I 0).toBitVec = 0#32 := rfl
  rw [this]; simp
theorem wil_hours {N : Int → Int} {p : Int} (wf : WFP N) (wl : WFL N) (w8 : W8 N) (k : Nat) (hk : k ≤ 600 - N 102) (hp : 0 ≤ p ∧ p < N 0) : wilA (hoursN N k) p (hoursN N k 102) ↔ wilA N p (N 102 + k) := by
  have wn0 := wf.1
  obtain ⟨i1, i2⟩ := OKL_hoursN wf wl w8 k hk
  obtain ⟨a1, a2, a3⟩ := hours_k wf wl w8 k hk
  unfold wilA awkA
  rw [fdA_now, a2 p hp.1 hp.2, fdA_h, i1.1 (8 + p) (by omega), i1.1 (16 + p) (by omega), i1.1 4 (by omega), i2]
  by_cases h0 : k = 0
  · subst h0
    have : hoursN N 0 = N := rfl
    have e0 : N 102 + ((0 : Nat) : Int) = N 102 := by omega
    rw [this, e0]
  · have e : ¬ wokA (hoursN N k) p := by
      unfold wokA
      rw [a3 (by omega)]
      exact zero_has (by omega)
    have e2 : ¬ (N 102 + (k : Int) = N 102) := by omega
    simp only [e, e2, and_false, false_and]
noncomputable def rsK (N : Int → Int) (g s w : Int) : Nat → Int × Int
  | 0 => (s, w)
  | k + 1 => ii (0 < (rsK N g s w k).1) (max 0 ((rsK N g s w k).1 - runA N g (N 102 + k)), (rsK N g s w k).2) (ii (someW N g (N 102 + k)) (N (64 + g), 0) (0, (rsK N g s w k).2 + 1))
def lpC (N : Int → Int) (g s w gr : Int) (k : Nat) : Prop := ¬ (0 < (rsK N g s w k).1) ∧ ¬ someW N g (N 102 + k) ∧ gr ≤ (rsK N g s w k).2 + 1
theorem rs_r {N : Int → Int} {g s w : Int} (wf : WFP N) (wl : WFL N) (hg : 0 ≤ g ∧ g < 4) (hs : 0 ≤ s ∧ s ≤ 250) (hw : 0 ≤ w) (k : Nat) : (0 ≤ (rsK N g s w k).1 ∧ (rsK N g s w k).1 ≤ 250) ∧ (0 ≤ (rsK N g s w k).2 ∧ (rsK N g s w k).2 ≤ w + k) := by
  have wn := wf.2.2.2.2.2.2.2.2.2.2.2.2.2.2.2.1 g hg.1 hg.2
  induction k with
  | zero => exact ⟨hs, by simp only [rsK]; omega⟩
  | succ k ih =>
    have hr := runA_r (h := N 102 + k) wl hg
    unfold rsK ii
    split
    · exact ⟨by show 0 ≤ max _ _ ∧ max _ _ ≤ 250; omega, by show 0 ≤ (rsK N g s w k).2 ∧ (rsK N g s w k).2 ≤ _; omega⟩
    · split
      · exact ⟨wn, by show 0 ≤ (0 : Int) ∧ (0 : Int) ≤ _; omega⟩
      · exact ⟨by show 0 ≤ (0 : Int) ∧ (0 : Int) ≤ 250; omega, by show 0 ≤ (rsK N g s w k).2 + 1 ∧ (rsK N g s w k).2 + 1 ≤ _; omega⟩
theorem C_lapseHour {S : Nat → Nat × Nat} {Q : Nat → Int → Int} {w : Nat → Nat → Int64} {rf : Nat → Nat → Option Nat} {N : Int → Int} {g s gr u : Int} (hS : SCok S) (hr : RCok rf) (wf : WFP N) (wl : WFL N) (cp : CP 67 Q N) (cl : CL 104 Q N) (fo : FO N g Q) (hg : 0 ≤ g ∧ g < N 1) (hs : 0 ≤ s ∧ s ≤ 250) (hgr : 1 ≤ gr ∧ gr ≤ 9) (hu : N 102 ≤ u ∧ u ≤ 600) : ∃ r, fX1_lapseHour S (mk Q w rf) 186 (I s) (I gr) (I u) = some (I r) ∧ ((r = -1 ∧ ∀ k : Nat, N 102 + k < u → ¬ lpC N g s (N (133 + g)) gr k) ∨ (∃ k : Nat, r = N 102 + k ∧ N 102 + k < u ∧ lpC N g s (N (133 + g)) gr k ∧ ∀ j : Nat, j < k → ¬ lpC N g s (N (133 + g)) gr j)) := by
  have hb := wl.1
  have wn1 := wf.2.1
  have hw := wl.2.2.2.2.2.1 g hg.1 (by omega)
  have hrs := rs_r (N := N) (g := g) (s := s) (w := N (133 + g)) wf wl (by omega) hs hw.1
  have cp' := cp
  have ip67 := isPar67; obtain ⟨⟨c0, c1, c2, c3, c4, c5, c6, c7⟩, cpp, cpg, cpd, cpk⟩ := CPl_of cp
  obtain ⟨f1, f2, f3, f4⟩ := cpg g hg.1 hg.2
  have fo1 := fo.1
  obtain ⟨r, h1, r', h2, h3⟩ := loop_inv (f := fX1_lapseHour_L26 S (mk Q w rf) 186 (I gr) (I u)) (m := 1000) (s := (I s, I (N (133 + g)), I (N 102))) (fun k t => t = (I (rsK N g s (N (133 + g)) k).1, I (rsK N g s (N (133 + g)) k).2, I (N 102 + k)) ∧ ∀ j : Nat, j < k → ¬ lpC N g s (N (133 + g)) gr j) (fun r => ∃ r', (cs2 (fun v7 => some v7) (fun (_ : Unit) => fX1_lapseHour_b111 S (mk Q w rf))) r = some (I r') ∧ ((r' = -1 ∧ ∀ k : Nat, N 102 + k < u → ¬ lpC N g s (N (133 + g)) gr k) ∨ (∃ k : Nat, r' = N 102 + k ∧ N 102 + k < u ∧ lpC N g s (N (133 + g)) gr k ∧ ∀ j : Nat, j < k → ¬ lpC N g s (N (133 + g)) gr j))) (u - N 102).toNat (by omega) ⟨by show _ = (I s, I (N (133 + g)), I (N 102 + ((0 : Nat) : Int))); rw [show ((0 : Nat) : Int) = 0 from rfl, Int.add_zero], fun j hj => by omega⟩ (by
      intro k t hk ⟨ht, hj⟩
      subst ht
      have h5 : ¬ (u ≤ N 102 + (k : Int)) := by omega
      have h6 : ¬ (600 ≤ N 102 + (k : Int)) := by omega
      have hk2 := hrs k
      obtain ⟨er, -⟩ := fo.2 (N 102 + k) (by omega) (by omega)
      have hrr := runA_r (h := N 102 + k) wl (by omega : 0 ≤ g ∧ g < 4)
      have sm := C_some (S := S) (w := w) (h := N 102 + k) hS hr wl fo (by omega)
      have ek : N 102 + (k : Int) + 1 = N 102 + ((k + 1 : Nat) : Int) := by omega
      have en : rsK N g s (N (133 + g)) (k + 1) = ii (0 < (rsK N g s (N (133 + g)) k).1) (max 0 ((rsK N g s (N (133 + g)) k).1 - runA N g (N 102 + k)), (rsK N g s (N (133 + g)) k).2) (ii (someW N g (N 102 + k)) (N (64 + g), 0) (0, (rsK N g s (N (133 + g)) k).2 + 1)) := rfl
      have nx : ∀ {P : Prop}, ¬ lpC N g s (N (133 + g)) gr k → ∀ j : Nat, j < k + 1 → ¬ lpC N g s (N (133 + g)) gr j := by
        intro P hc j hj2
        by_cases e : j = k
        · rw [e]; exact hc
        · exact hj j (by omega)
      by_cases q1 : 0 < (rsK N g s (N (133 + g)) k).1
      · left
        have q1' : ¬ ((rsK N g s (N (133 + g)) k).1 ≤ 0) := by omega
        refine ⟨_, ?_, rfl, nx (P := True) (fun h => h.1 q1)⟩
        simp (disch := first | assumption | omega) only [fX1_lapseHour_L26, fX1_lapseHour_b105, I_lit, orb_I, I_add, I_sub, I_mul, I_neg, nm_eq, bd0_s, bd2_s, un2_eq, un3_eq, un4_eq, un5_eq, un6_eq, cs2_l, cs2_r, mk_1, mk_2, wI_mk, wL_mk, wR_mk, setR_same, setR_setR, rZ_0, rZ_1, rZ_b2, it_b2, it_nb2, it_b21, it_nb21, I_lt, I_le, I_eq, I_div, castI, if_true, if_false, Classical.not_not, h5, h6, q1', gC186_2, ldC187, er, mxI_I]
        rw [en, ii_t q1, ek]
      · have q1' : (rsK N g s (N (133 + g)) k).1 ≤ 0 := by omega
        have q1z : (rsK N g s (N (133 + g)) k).1 = 0 := by omega
        by_cases q2 : someW N g (N 102 + k)
        · left
          rw [b2_t q2] at sm
          refine ⟨_, ?_, rfl, nx (P := True) (fun h => h.2.1 q2)⟩
          simp (disch := first | assumption | omega) only [fX1_lapseHour_L26, fX1_lapseHour_b105, I_lit, orb_I, I_add, I_sub, I_mul, I_neg, nm_eq, bd0_s, bd2_s, un2_eq, un3_eq, un4_eq, un5_eq, un6_eq, cs2_l, cs2_r, mk_1, mk_2, wI_mk, wL_mk, wR_mk, setR_same, setR_setR, rZ_0, rZ_1, rZ_b2, it_b2, it_nb2, it_b21, it_nb21, I_lt, I_le, I_eq, I_div, castI, if_true, if_false, Classical.not_not, h5, h6, q1', sm, Int.reduceEq, gC186_0, gP0_10, fo1, ldP10, f3]
          rw [en, ii_f q1, ii_t q2, ek]
        · rw [b2_f q2] at sm
          by_cases q3 : (rsK N g s (N (133 + g)) k).2 + 1 < gr
          · left
            refine ⟨_, ?_, rfl, nx (P := True) (fun h => by have := h.2.2; omega)⟩
            simp (disch := first | assumption | omega) only [fX1_lapseHour_L26, fX1_lapseHour_b105, I_lit, orb_I, I_add, I_sub, I_mul, I_neg, nm_eq, bd0_s, bd2_s, un2_eq, un3_eq, un4_eq, un5_eq, un6_eq, cs2_l, cs2_r, mk_1, mk_2, wI_mk, wL_mk, wR_mk, setR_same, setR_setR, rZ_0, rZ_1, rZ_b2, it_b2, it_nb2, it_b21, it_nb21, I_lt, I_le, I_eq, I_div, castI, if_true, if_false, Classical.not_not, h5, h6, q1', sm, q3]
            rw [en, ii_f q1, ii_f q2, ek, q1z]
          · right
            refine ⟨.inl (I (N 102 + k)), ?_, N 102 + k, rfl, Or.inr ⟨k, rfl, by omega, ⟨q1, q2, by omega⟩, hj⟩⟩
            simp (disch := first | assumption | omega) only [fX1_lapseHour_L26, fX1_lapseHour_b105, I_lit, orb_I, I_add, I_sub, I_mul, I_neg, nm_eq, bd0_s, bd2_s, un2_eq, un3_eq, un4_eq, un5_eq, un6_eq, cs2_l, cs2_r, mk_1, mk_2, wI_mk, wL_mk, wR_mk, setR_same, setR_setR, rZ_0, rZ_1, rZ_b2, it_b2, it_nb2, it_b21, it_nb21, I_lt, I_le, I_eq, I_div, castI, if_true, if_false, Classical.not_not, h5, h6, q1', sm, q3]) (by
      intro t ⟨ht, hj⟩
      subst ht
      have h5 : (u ≤ N 102 + ((u - N 102).toNat : Int)) := by omega
      refine ⟨.inr (), ?_, -1, rfl, Or.inl ⟨rfl, fun k hk => hj k (by omega)⟩⟩
      simp (disch := first | assumption | omega) only [fX1_lapseHour_L26, I_lit, orb_I, I_add, I_sub, I_mul, I_neg, nm_eq, bd0_s, bd2_s, un2_eq, un3_eq, un4_eq, un5_eq, un6_eq, cs2_l, cs2_r, mk_1, mk_2, wI_mk, wL_mk, wR_mk, setR_same, setR_setR, rZ_0, rZ_1, rZ_b2, it_b2, it_nb2, it_b21, it_nb21, I_lt, I_le, I_eq, I_div, castI, if_true, if_false, Classical.not_not, h5])
  refine ⟨r', ?_, h3⟩
  have c102 := cl.1.1
  obtain ⟨-, -, -, d4, -⟩ := cl.2.2 g hg.1 hg.2
  have il := isLife104
  simp (disch := first | assumption | omega) only [fX1_lapseHour, I_lit, orb_I, I_add, I_sub, I_mul, I_neg, nm_eq, bd0_s, bd2_s, un2_eq, un3_eq, un4_eq, un5_eq, un6_eq, cs2_l, cs2_r, mk_1, mk_2, wI_mk, wL_mk, wR_mk, setR_same, setR_setR, rZ_0, rZ_1, rZ_b2, it_b2, it_nb2, it_b21, it_nb21, I_lt, I_le, I_eq, I_div, castI, if_true, if_false, Classical.not_not, gC186_1, gL9 (l := 104), fo1, ldL6 (l := 104), d4, c102, h1]
  exact h2
