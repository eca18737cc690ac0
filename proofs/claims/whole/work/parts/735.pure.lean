theorem glass_sim {N : Int → Int} {g : Int} (wf : WFP N) (wl : WFL N) (w8 : W8 N) (hg : 0 ≤ g ∧ g < N 1) (hl : ¬ lapA N g) (k : Nat) (hk : k ≤ 600 - N 102) : ((∀ j : Nat, j < k → ¬ lpC N g (N (125 + g)) (N (133 + g)) (N 3) j) → ¬ lapA (hoursN N k) g ∧ hoursN N k (125 + g) = (rsK N g (N (125 + g)) (N (133 + g)) k).1 ∧ hoursN N k (133 + g) = (rsK N g (N (125 + g)) (N (133 + g)) k).2) ∧ ((∃ j : Nat, j < k ∧ lpC N g (N (125 + g)) (N (133 + g)) (N 3) j) → lapA (hoursN N k) g) := by
  have wn0 := wf.1
  have wn1 := wf.2.1
  obtain ⟨g1, g2, g4, g5⟩ := WFP_own wf hg
  induction k with
  | zero => exact ⟨fun _ => ⟨hl, rfl, rfl⟩, fun ⟨j, h, _⟩ => by omega⟩
  | succ k ih =>
    obtain ⟨j1, j2⟩ := ih (by omega)
    obtain ⟨i1, i2⟩ := OKL_hoursN wf wl w8 k (by omega)
    have wf' := OKL_wf wf i1
    have n1 := OKL_n i1 (j := 1) (by omega)
    obtain ⟨h1, h2, h3⟩ := hour_g wf' i1.2.1 i1.2.2 (g := g) (by omega)
    have a56 : hoursN N k (56 + g) = N (56 + g) := i1.1 _ (by omega)
    have a60 : hoursN N k (60 + g) = N (60 + g) := i1.1 _ (by omega)
    have a64 : hoursN N k (64 + g) = N (64 + g) := i1.1 _ (by omega)
    have a3 : hoursN N k 3 = N 3 := i1.1 _ (by omega)
    have hs : someW (hoursN N k) g (hoursN N k 102) ↔ someW N g (N 102 + k) := by
      unfold someW
      rw [a56, a60, wil_hours wf wl w8 k (by omega) g1, wil_hours wf wl w8 k (by omega) g2]
    obtain ⟨ne, -, -⟩ := hours_k wf wl w8 k (by omega)
    have hrn : runA (hoursN N k) g (hoursN N k 102) = runA N g (N 102 + k) := by
      rw [i2]
      exact run_cong wf i1.1 (ne _ (by omega)) (ne _ (by omega))
    have en : rsK N g (N (125 + g)) (N (133 + g)) (k + 1) = ii (0 < (rsK N g (N (125 + g)) (N (133 + g)) k).1) (max 0 ((rsK N g (N (125 + g)) (N (133 + g)) k).1 - runA N g (N 102 + k)), (rsK N g (N (125 + g)) (N (133 + g)) k).2) (ii (someW N g (N 102 + k)) (N (64 + g), 0) (0, (rsK N g (N (125 + g)) (N (133 + g)) k).2 + 1)) := rfl
    have hle := i1.2.1.2.2.2.1 g hg.1 (by omega)
    refine ⟨fun hno => ?_, fun ⟨j, hj, hc⟩ => ?_⟩
    · obtain ⟨p1, p2, p3⟩ := j1 (fun j hj => hno j (by omega))
      have hck := hno k (by omega)
      show ¬ lapA (hourA (hoursN N k)) g ∧ hourA (hoursN N k) (125 + g) = _ ∧ hourA (hoursN N k) (133 + g) = _
      rw [h1, h2, h3]
      unfold gX gL gW
      rw [a3, a64, hrn, propext hs, p2, p3, en]
      rw [ii_f p1, ii_f p1]
      rw [p2] at hle
      generalize hz : rsK N g (N (125 + g)) (N (133 + g)) k = z at *
      unfold lpC at hck
      rw [hz] at hck
      by_cases q1 : 0 < z.1
      · rw [ii_t q1, ii_f (by omega), ii_f (by omega)]
        refine ⟨fun h => ?_, by show _ = max 0 (z.1 - _); omega, rfl⟩
        rcases h with h | h
        · exact p1 h
        · omega
      · have q1z : z.1 = 0 := by omega
        rw [ii_f q1, ii_t q1z, ii_t q1z]
        by_cases q2 : someW N g (N 102 + k)
        · rw [ii_t q2, ii_t q2, ii_t q2]
          refine ⟨fun h => ?_, rfl, rfl⟩
          rcases h with h | h
          · exact p1 h
          · exact h.2.1 q2
        · rw [ii_f q2, ii_f q2, ii_f q2]
          refine ⟨fun h => ?_, rfl, rfl⟩
          rcases h with h | h
          · exact p1 h
          · exact hck ⟨q1, q2, h.2.2⟩
    · show lapA (hourA (hoursN N k)) g
      rw [h3]
      by_cases hjk : ∃ j : Nat, j < k ∧ lpC N g (N (125 + g)) (N (133 + g)) (N 3) j
      · exact Or.inl (j2 hjk)
      · have hno : ∀ j : Nat, j < k → ¬ lpC N g (N (125 + g)) (N (133 + g)) (N 3) j := fun j hj hc => hjk ⟨j, hj, hc⟩
        have ejk : j = k := by
          by_cases e : j = k
          · exact e
          · exact absurd hc (hno j (by omega))
        subst ejk
        obtain ⟨p1, p2, p3⟩ := j1 hno
        unfold gX
        rw [a3, hs, p2, p3]
        rw [p2] at hle
        have hc1 := hc.1
        exact Or.inr ⟨by omega, hc.2.1, hc.2.2⟩
def lapI (N : Int → Int) (g : Int) (k : Nat) (r : Int) : Prop := (r = -1 ∧ (lapA N g ∨ ∀ j : Nat, j < k → ¬ lpC N g (N (125 + g)) (N (133 + g)) (N 3) j)) ∨ (¬ lapA N g ∧ ∃ i : Nat, i < k ∧ r = N 102 + i ∧ lpC N g (N (125 + g)) (N (133 + g)) (N 3) i ∧ ∀ j : Nat, j < i → ¬ lpC N g (N (125 + g)) (N (133 + g)) (N 3) j)
theorem lapI_u {N : Int → Int} {g r r' : Int} {k : Nat} (h : lapI N g k r) (h' : lapI N g k r') : r = r' := by
  rcases h with ⟨a1, a2⟩ | ⟨a1, i, a2, a3, a4, a5⟩
  · rcases h' with ⟨b1, b2⟩ | ⟨b1, i', b2, b3, b4, b5⟩
    · omega
    · rcases a2 with a2 | a2
      · exact absurd a2 b1
      · exact absurd b4 (a2 i' b2)
  · rcases h' with ⟨b1, b2⟩ | ⟨b1, i', b2, b3, b4, b5⟩
    · rcases b2 with b2 | b2
      · exact absurd b2 a1
      · exact absurd a4 (b2 i a2)
    · by_cases c : i < i'
      · exact absurd a4 (b5 i c)
      · by_cases c2 : i' < i
        · exact absurd b4 (a5 i' c2)
        · omega
theorem lap_mono {N : Int → Int} {g : Int} (wf : WFP N) (wl : WFL N) (w8 : W8 N) (hg : 0 ≤ g ∧ g < N 1) (k : Nat) (hk : k ≤ 600 - N 102) (h : lapA N g) : lapA (hoursN N k) g := by
  induction k with
  | zero => exact h
  | succ k ih =>
    obtain ⟨i1, i2⟩ := OKL_hoursN wf wl w8 k (by omega)
    have n1 := OKL_n i1 (j := 1) (by omega)
    obtain ⟨h1, h2, h3⟩ := hour_g (OKL_wf wf i1) i1.2.1 i1.2.2 (g := g) (by omega)
    show lapA (hourA (hoursN N k)) g
    rw [h3]
    exact Or.inl (ih (by omega))
theorem lap_new {N : Int → Int} {g : Int} (wf : WFP N) (wl : WFL N) (w8 : W8 N) (hg : 0 ≤ g ∧ g < N 1) (k : Nat) (hk : k + 1 ≤ 600 - N 102) : (lapA (hoursN N (k + 1)) g ∧ ¬ lapA (hoursN N k) g) ↔ (¬ lapA N g ∧ (∀ j : Nat, j < k → ¬ lpC N g (N (125 + g)) (N (133 + g)) (N 3) j) ∧ lpC N g (N (125 + g)) (N (133 + g)) (N 3) k) := by
  by_cases hl : lapA N g
  · constructor
    · intro h
      exact absurd (lap_mono wf wl w8 hg k (by omega) hl) h.2
    · intro h
      exact absurd hl h.1
  · obtain ⟨a1, a2⟩ := glass_sim wf wl w8 hg hl k (by omega)
    obtain ⟨b1, b2⟩ := glass_sim wf wl w8 hg hl (k + 1) (by omega)
    constructor
    · intro ⟨h1, h2⟩
      have hno : ∀ j : Nat, j < k → ¬ lpC N g (N (125 + g)) (N (133 + g)) (N 3) j := fun j hj hc => h2 (a2 ⟨j, hj, hc⟩)
      refine ⟨hl, hno, ?_⟩
      by_cases hc : lpC N g (N (125 + g)) (N (133 + g)) (N 3) k
      · exact hc
      · exfalso
        exact (b1 (fun j hj => by
          by_cases e : j = k
          · rw [e]; exact hc
          · exact hno j (by omega))).1 h1
    · intro ⟨h1, h2, h3⟩
      exact ⟨b2 ⟨k, by omega, h3⟩, (a1 h2).1⟩
theorem has_andnot {x y : Int32} {g : Int} (hg : 0 ≤ g ∧ g < 8) : hasA (x &&& (y ^^^ I (-1))) g ↔ (hasA x g ∧ ¬ hasA y g) := by
  rw [hasA_bit hg, hasA_bit hg, hasA_bit hg, Int32.toBitVec_and, Int32.toBitVec_xor, BitVec.getLsbD_and, BitVec.getLsbD_xor]
  have : (I (-1)).toBitVec = BitVec.allOnes 32 := by decide
  rw [this, BitVec.getLsbD_allOnes]
  have h2 : g.toNat < 32 := by omega
  simp [h2]
theorem lapI_0 {N : Int → Int} {g : Int} : lapI N g 0 (-1) := Or.inl ⟨rfl, Or.inr (fun j hj => by omega)⟩
theorem lapI_keep {N : Int → Int} {g r : Int} {k : Nat} (h : lapI N g k r) (hn : ¬ (¬ lapA N g ∧ (∀ j : Nat, j < k → ¬ lpC N g (N (125 + g)) (N (133 + g)) (N 3) j) ∧ lpC N g (N (125 + g)) (N (133 + g)) (N 3) k)) : lapI N g (k + 1) r := by
  rcases h with ⟨a1, a2⟩ | ⟨a1, i, a2, a3⟩
  · refine Or.inl ⟨a1, ?_⟩
    rcases a2 with a2 | a2
    · exact Or.inl a2
    · by_cases hl : lapA N g
      · exact Or.inl hl
      · refine Or.inr (fun j hj => ?_)
        by_cases e : j = k
        · rw [e]; exact fun hc => hn ⟨hl, a2, hc⟩
        · exact a2 j (by omega)
  · exact Or.inr ⟨a1, i, by omega, a3⟩
theorem M_layLapses {S : Nat → Nat × Nat} {R : Nat → Int → Int} {w : Nat → Nat → Int64} {rf : Nat → Nat → Option Nat} (hS : SMok S) (hr : RMok rf) (wf : WFP (R 66)) (lo : LOK (R 66)) : ∃ R', fX13_layLapses S (mk R w rf) 64 = some (mk R' w rf) ∧ (∀ a, a ≠ 70 → a ≠ 75 → R' a = R a) ∧ (∀ g, 0 ≤ g → g < R 66 1 → lapI (R 66) g (600 - R 66 102).toNat (R' 75 g)) := by
  have wl := lo.1
  have hb := wl.1
  have w8 := W8_of wf lo.2
  have wn1 := wf.2.1
  have ma := M_layAside (S := S) (w := w) (R := R) hS hr
  generalize hR1 : setR R 70 (cpf (R 70) (R 66) 0 102 39) = R1 at ma
  have r1 : ∀ a, a ≠ 70 → R1 a = R a := fun a ha => by rw [← hR1, setR_ne ha]
  have r170 : ∀ j, 0 ≤ j → j < 39 → R1 70 j = R 66 (102 + j) := by
    intro j h1 h2
    rw [← hR1, setR_same, cpf_in (k := 102 + j) (by omega) (by omega)]
  have l1 := loop_seq (f := fX13_layLapses_L6 S 64) (m := 1000) (fun k => (I k, mk (setR R1 75 (fun j => if 0 ≤ j ∧ j < (k : Int) then -1 else R1 75 j)) w rf)) 4 (r := mk (setR R1 75 (fun j => if 0 ≤ j ∧ j < (4 : Int) then -1 else R1 75 j)) w rf) (by omega) (by
    intro k hk
    have h5 : ¬ (4 ≤ (k : Int)) := by omega
    simp (disch := first | assumption | omega) only [fX13_layLapses_L6, I_lit, orb_I, I_add, I_sub, I_mul, I_neg, nm_eq, bd0_s, bd2_s, un2_eq, un3_eq, un4_eq, un5_eq, un6_eq, cs2_l, cs2_r, mk_1, mk_2, wI_mk, wL_mk, wR_mk, setR_same, setR_setR, rZ_0, rZ_1, rZ_b2, it_b2, it_nb2, it_b21, it_nb21, I_lt, I_le, I_eq, I_div, castI, if_true, if_false, Classical.not_not, h5, gM25, stM75]
    congr 3
    congr 2
    funext j
    unfold updf
    by_cases e : j = k
    · rw [if_pos e, if_pos (by omega)]
    · rw [if_neg e]
      show (if 0 ≤ j ∧ j < (k : Int) then -1 else R1 75 j) = _
      by_cases h2 : 0 ≤ j ∧ j < (k : Int)
      · rw [if_pos h2, if_pos (by omega)]
      · rw [if_neg h2, if_neg (by omega)]) (by
    simp (disch := first | assumption | omega) only [fX13_layLapses_L6, I_lit, orb_I, I_add, I_sub, I_mul, I_neg, nm_eq, bd0_s, bd2_s, un2_eq, un3_eq, un4_eq, un5_eq, un6_eq, cs2_l, cs2_r, mk_1, mk_2, wI_mk, wL_mk, wR_mk, setR_same, setR_setR, rZ_0, rZ_1, rZ_b2, it_b2, it_nb2, it_b21, it_nb21, I_lt, I_le, I_eq, I_div, castI, if_true, if_false, Classical.not_not]
    rfl)
  have e0 : (I ((0 : Nat) : Int), mk (setR R1 75 (fun j => if 0 ≤ j ∧ j < ((0 : Nat) : Int) then -1 else R1 75 j)) w rf) = ((0 : Int32), mk R1 w rf) := by
    have : (fun j : Int => if 0 ≤ j ∧ j < ((0 : Nat) : Int) then (-1 : Int) else R1 75 j) = R1 75 := by
      funext j
      rw [if_neg (by omega)]
    rw [this, setR_id]; rfl
  simp only [e0] at l1
  generalize hR2 : setR R1 75 (fun j => if 0 ≤ j ∧ j < (4 : Int) then -1 else R1 75 j) = R2 at l1
  have r2 : ∀ a, a ≠ 70 → a ≠ 75 → R2 a = R a := fun a h1 h2 => by rw [← hR2, setR_ne h2, r1 a h1]
  have r270 : R2 70 = R1 70 := by rw [← hR2, setR_ne (by omega)]
  have r275 : ∀ g, 0 ≤ g → g < 4 → R2 75 g = -1 := fun g h1 h2 => by rw [← hR2, setR_same, if_pos ⟨h1, h2⟩]
  obtain ⟨τ, h3, R3, rfl, b1, b2, b3⟩ := loop_inv (f := fX13_layLapses_L24 S 64) (m := 1000) (s := mk R2 w rf) (fun k s => ∃ R', s = mk R' w rf ∧ (∀ a, a ≠ 66 → a ≠ 75 → R' a = R2 a) ∧ R' 66 = hoursN (R 66) k ∧ ∀ g, 0 ≤ g → g < R 66 1 → lapI (R 66) g k (R' 75 g)) (fun r => ∃ R', r = mk R' w rf ∧ (∀ a, a ≠ 66 → a ≠ 75 → R' a = R2 a) ∧ R' 66 = hoursN (R 66) (600 - R 66 102).toNat ∧ ∀ g, 0 ≤ g → g < R 66 1 → lapI (R 66) g (600 - R 66 102).toNat (R' 75 g)) (600 - R 66 102).toNat (by omega) ⟨R2, rfl, fun a h1 h2 => rfl, r2 66 (by omega) (by omega), fun g h1 h2 => by rw [r275 g h1 (by omega)]; exact lapI_0⟩ (by
      intro k s hk ⟨R', hs, c1, c2, c3⟩
      subst hs
      left
      obtain ⟨i1, i2⟩ := OKL_hoursN wf wl w8 k (by omega)
      obtain ⟨k1, k2⟩ := OKL_hoursN wf wl w8 (k + 1) (by omega)
      have h5 : ¬ (600 ≤ R 66 102 + (k : Int)) := by omega
      have mo := M_oneHour (S := S) (R := R') (w := w) hS hr (by rw [c2]; exact OKL_wf wf i1) (by rw [c2]; exact i1.2.1) (by rw [c2]; exact i1.2.2)
      have eH : hourA (R' 66) = hoursN (R 66) (k + 1) := by rw [c2]; rfl
      rw [eH] at mo
      generalize hR4 : setR R' 66 (hoursN (R 66) (k + 1)) = R4 at mo
      have r4 : ∀ a, a ≠ 66 → R4 a = R' a := fun a ha => by rw [← hR4, setR_ne ha]
      have r466 : R4 66 = hoursN (R 66) (k + 1) := by rw [← hR4, setR_same]
      obtain ⟨τ5, g1, R5, rfl, d1, d2⟩ := loop_inv (f := fX13_layLapses_L51 S 64 (I (hoursN (R 66) k 104))) (m := 1000) (s := (I 0, mk R4 w rf)) (fun i s => ∃ R', s = (I i, mk R' w rf) ∧ (∀ a, a ≠ 75 → R' a = R4 a) ∧ ∀ g, 0 ≤ g → g < R 66 1 → (g < i → lapI (R 66) g (k + 1) (R' 75 g)) ∧ ((i : Int) ≤ g → lapI (R 66) g k (R' 75 g))) (fun r => ∃ R', r = mk R' w rf ∧ (∀ a, a ≠ 75 → R' a = R4 a) ∧ ∀ g, 0 ≤ g → g < R 66 1 → lapI (R 66) g (k + 1) (R' 75 g)) (R 66 1).toNat (by omega) ⟨R4, rfl, fun a h => rfl, fun g h1 h2 => ⟨fun h => by omega, fun _ => by rw [r4 75 (by omega)]; exact c3 g h1 h2⟩⟩ (by
          intro i s hi ⟨R6, hs, f1, f2⟩
          subst hs
          left
          have h6 : ¬ (R 66 1 ≤ (i : Int)) := by omega
          have r666 : R6 66 = hoursN (R 66) (k + 1) := by rw [f1 66 (by omega), r466]
          have n1 : hoursN (R 66) (k + 1) 1 = R 66 1 := OKL_n k1 (by omega)
          have hn := lap_new wf wl w8 (g := (i : Int)) (by omega) k (by omega)
          have ha : hasA (I (hoursN (R 66) (k + 1) 104) &&& (I (hoursN (R 66) k 104) ^^^ I (-1))) i ↔ (lapA (hoursN (R 66) (k + 1)) i ∧ ¬ lapA (hoursN (R 66) k) i) := has_andnot (by omega)
          by_cases q : lapA (hoursN (R 66) (k + 1)) i ∧ ¬ lapA (hoursN (R 66) k) i
          · have qh := ha.2 q
            have qn := hn.1 q
            refine ⟨(I ((i + 1 : Nat) : Int), mk (setR R6 75 (updf (R6 75) i (R 66 102 + ((k + 1 : Nat) : Int) - 1))) w rf), ?_, _, rfl, ?_, ?_⟩
            · simp (disch := first | assumption | omega) only [fX13_layLapses_L51, fX13_layLapses_b94, I_lit, orb_I, I_add, I_sub, I_mul, I_neg, nm_eq, bd0_s, bd2_s, un2_eq, un3_eq, un4_eq, un5_eq, un6_eq, cs2_l, cs2_r, mk_1, mk_2, wI_mk, wL_mk, wR_mk, setR_same, setR_setR, rZ_0, rZ_1, rZ_b2, it_b2, it_nb2, it_b21, it_nb21, I_lt, I_le, I_eq, I_div, castI, if_true, if_false, Classical.not_not, gM14, ldM66, r666, n1, h6, M_has, qh, gM25, k2, stM75]
              rfl
            · intro a ha2
              rw [setR_ne ha2, f1 a ha2]
            · intro g hg1 hg2
              rw [setR_same]
              by_cases e : g = i
              · rw [updf_same e, e]
                refine ⟨fun _ => Or.inr ⟨qn.1, k, by omega, by omega, qn.2.2, qn.2.1⟩, fun h => by omega⟩
              · rw [updf_ne e]
                exact ⟨fun h => (f2 g hg1 hg2).1 (by omega), fun h => (f2 g hg1 hg2).2 (by omega)⟩
          · have qh : ¬ hasA (I (hoursN (R 66) (k + 1) 104) &&& (I (hoursN (R 66) k 104) ^^^ I (-1))) i := fun h => q (ha.1 h)
            refine ⟨(I ((i + 1 : Nat) : Int), mk R6 w rf), ?_, R6, rfl, f1, ?_⟩
            · simp (disch := first | assumption | omega) only [fX13_layLapses_L51, fX13_layLapses_b94, I_lit, orb_I, I_add, I_sub, I_mul, I_neg, nm_eq, bd0_s, bd2_s, un2_eq, un3_eq, un4_eq, un5_eq, un6_eq, cs2_l, cs2_r, mk_1, mk_2, wI_mk, wL_mk, wR_mk, setR_same, setR_setR, rZ_0, rZ_1, rZ_b2, it_b2, it_nb2, it_b21, it_nb21, I_lt, I_le, I_eq, I_div, castI, if_true, if_false, Classical.not_not, gM14, ldM66, r666, n1, h6, M_has, qh]
              rfl
            · intro g hg1 hg2
              refine ⟨fun h => ?_, fun h => (f2 g hg1 hg2).2 (by omega)⟩
              by_cases e : g = i
              · have h7 := (f2 g hg1 hg2).2 (by omega)
                rw [e] at h7 ⊢
                exact lapI_keep h7 (fun h => q (hn.2 h))
              · exact (f2 g hg1 hg2).1 (by omega)) (by
          intro s ⟨R6, hs, f1, f2⟩
          subst hs
          have h6 : (R 66 1 ≤ ((R 66 1).toNat : Int)) := by omega
          have r666 : R6 66 = hoursN (R 66) (k + 1) := by rw [f1 66 (by omega), r466]
          have n1 : hoursN (R 66) (k + 1) 1 = R 66 1 := OKL_n k1 (by omega)
          refine ⟨mk R6 w rf, ?_, R6, rfl, f1, fun g hg1 hg2 => (f2 g hg1 hg2).1 (by omega)⟩
          simp (disch := first | assumption | omega) only [fX13_layLapses_L51, I_lit, orb_I, I_add, I_sub, I_mul, I_neg, nm_eq, bd0_s, bd2_s, un2_eq, un3_eq, un4_eq, un5_eq, un6_eq, cs2_l, cs2_r, mk_1, mk_2, wI_mk, wL_mk, wR_mk, setR_same, setR_setR, rZ_0, rZ_1, rZ_b2, it_b2, it_nb2, it_b21, it_nb21, I_lt, I_le, I_eq, I_div, castI, if_true, if_false, Classical.not_not, gM14, ldM66, r666, n1, h6])
      refine ⟨mk R5 w rf, ?_, R5, rfl, ?_, ?_, d2⟩
      · simp (disch := first | assumption | omega) only [fX13_layLapses_L24, I_lit, orb_I, I_add, I_sub, I_mul, I_neg, nm_eq, bd0_s, bd2_s, un2_eq, un3_eq, un4_eq, un5_eq, un6_eq, cs2_l, cs2_r, mk_1, mk_2, wI_mk, wL_mk, wR_mk, setR_same, setR_setR, rZ_0, rZ_1, rZ_b2, it_b2, it_nb2, it_b21, it_nb21, I_lt, I_le, I_eq, I_div, castI, if_true, if_false, Classical.not_not, gM14, ldM66, c2, i2, h5, mo, g1]
      · intro a ha1 ha2
        rw [d1 a ha2, r4 a ha1, c1 a ha1 ha2]
      · rw [d1 66 (by omega), r466]) (by
      intro s ⟨R', hs, c1, c2, c3⟩
      subst hs
      obtain ⟨i1, i2⟩ := OKL_hoursN wf wl w8 (600 - R 66 102).toNat (by omega)
      have h5 : (600 ≤ R 66 102 + ((600 - R 66 102).toNat : Int)) := by omega
      refine ⟨mk R' w rf, ?_, R', rfl, c1, c2, c3⟩
      simp (disch := first | assumption | omega) only [fX13_layLapses_L24, I_lit, orb_I, I_add, I_sub, I_mul, I_neg, nm_eq, bd0_s, bd2_s, un2_eq, un3_eq, un4_eq, un5_eq, un6_eq, cs2_l, cs2_r, mk_1, mk_2, wI_mk, wL_mk, wR_mk, setR_same, setR_setR, rZ_0, rZ_1, rZ_b2, it_b2, it_nb2, it_b21, it_nb21, I_lt, I_le, I_eq, I_div, castI, if_true, if_false, Classical.not_not, gM14, ldM66, c2, i2, h5])
  have mt := M_takeBack (S := S) (w := w) (R := R3) hS hr
  obtain ⟨i1, i2⟩ := OKL_hoursN wf wl w8 (600 - R 66 102).toNat (by omega)
  have e70 : R3 70 = R1 70 := by rw [b1 70 (by omega) (by omega), r270]
  rw [b2, e70, back_eq i1.1 (AgS_hoursN wf wl w8 _ (by omega)) r170] at mt
  refine ⟨setR R3 66 (R 66), ?_, ?_, ?_⟩
  · simp only [fX13_layLapses, ma, bd0_s, l1, h3, mt]
  · intro a h1 h2
    by_cases h66 : a = 66
    · rw [h66, setR_same]
    · rw [setR_ne h66, b1 a h66 h2, r2 a h1 h2]
  · intro g h1 h2
    rw [setR_ne (by omega)]
    exact b3 g h1 h2
theorem C_lapseOf {S : Nat → Nat × Nat} {Q : Nat → Int → Int} {w : Nat → Nat → Int64} {rf : Nat → Nat → Option Nat} {N : Int → Int} {g : Int} (hS : SCok S) (hr : RCok rf) (wf : WFP N) (wl : WFL N) (cp : CP 67 Q N) (cl : CL 104 Q N) (hg : 0 ≤ g ∧ g < N 1) (hl : ¬ lapA N g) : ∃ r Q', fX12_lapseOf S (mk Q w rf) 64 (I g) = some (I r, mk Q' w rf) ∧ lapI N g (600 - N 102).toNat r ∧ (∀ a, a < 186 ∨ 188 < a → Q' a = Q a) := by
  have hb := wl.1
  have wn1 := wf.2.1
  have wn3 := wf.2.2.2.1
  have hle := wl.2.2.2.1 g hg.1 (by omega)
  obtain ⟨Q1, l1, l2, l3⟩ := C_look (S := S) (w := w) hS hr wf wl cp cl hg
  have cl1 : CL 104 Q1 N := CL_q cl (fun a h1 h2 => l3 a (by omega))
  have cp1 : CP 67 Q1 N := CP_q cp (fun a h1 h2 => l3 a (by omega))
  obtain ⟨r, h1, h2⟩ := C_lapseHour (S := S) (w := w) (s := N (125 + g)) (gr := N 3) (u := 600) hS hr wf wl cp1 cl1 l2 hg hle wn3 (by omega)
  refine ⟨r, Q1, ?_, ?_, l3⟩
  · obtain ⟨d1, -⟩ := cl1.2.2 g hg.1 hg.2
    have d3 : Q1 67 16 = N 3 := cp1.1.2.2.2.1
    have il := isLife104
    simp (disch := first | assumption | omega) only [fX12_lapseOf, I_lit, orb_I, I_add, I_sub, I_mul, I_neg, nm_eq, bd0_s, bd2_s, un2_eq, un3_eq, un4_eq, un5_eq, un6_eq, cs2_l, cs2_r, mk_1, mk_2, wI_mk, wL_mk, wR_mk, setR_same, setR_setR, rZ_0, rZ_1, rZ_b2, it_b2, it_nb2, it_b21, it_nb21, I_lt, I_le, I_eq, I_div, castI, if_true, if_false, Classical.not_not, gC64_7, l1, gC64_4, gL6 (l := 104), ldL3 (l := 104), d1, gC64_1, d3, h1]
  · rcases h2 with ⟨a1, a2⟩ | ⟨k, a1, a2, a3, a4⟩
    · exact Or.inl ⟨a1, Or.inr (fun j hj => a2 j (by omega))⟩
    · exact Or.inr ⟨hl, k, by omega, a1, a3, a4⟩
theorem INV_75 {Q : Nat → Int → Int} {w : Nat → Nat → Int64} {rf : Nat → Nat → Option Nat} {R R' : Nat → Int → Int} {v : Nat → Nat → Int64} (inv : INV Q w rf R v) (h : ∀ a, a ≠ 70 → a ≠ 75 → R' a = R a) : INV Q w rf R' v :=
  INV_q inv (fun a ha => rfl) rfl rfl (fun a ha => h a (by unfold KM at ha; omega) (by unfold KM at ha; omega)) (fun j hj => by rw [h 64 (by omega) (by omega)])
theorem op_lapses {S S' : Nat → Nat × Nat} (hS : SCok S) (hS' : SMok S') (a1 : Int32) : OpC1 (fun σ => fX12_lapses S σ 64 a1) (fun σ => fX13_lapses S' σ 64 a1) := by
  intro t σC σM ⟨Q, w, rf, R, v, rm, q1, q2, hr, hr', inv, tx⟩; subst q1; subst q2
  obtain ⟨g, rfl, hg⟩ := exI a1
  have inv0 := INV_th inv
  have r66 : th0 R 66 = R 66 := th0_ne (by omega)
  obtain ⟨ta, ⟨wf, cp, nam⟩, ⟨lo, cl⟩, -⟩ := inv
  have k1 := C_isRunning (S := S) (w := w) hS hr wf cp cl hg
  have m1 := M_isGlass (S := S') (w := v) (R := th0 R) hS' hr' inv0.2.1.1 hg
  rw [r66] at m1
  have wn1 := wf.2.1
  by_cases h1 : 0 ≤ g ∧ g < R 66 1
  · rw [b2_t h1] at m1
    obtain ⟨R', e1, e2, e3⟩ := M_layLapses (S := S') (w := v) (R := th0 R) hS' hr' (by rw [r66]; exact wf) (by rw [r66]; exact lo)
    rw [r66] at e3
    have e4 := e3 g h1.1 h1.2
    have mm : fX13_lapses S' (mk R v rm) 64 (I g) = some (I (R' 75 g), mk R' v rm) := by
      simp only [fX13_lapses, th0_I]
      simp (disch := first | assumption | omega) only [I_lit, orb_I, I_add, I_sub, I_mul, I_neg, nm_eq, bd0_s, bd2_s, un2_eq, un3_eq, un4_eq, un5_eq, un6_eq, cs2_l, cs2_r, mk_1, mk_2, wI_mk, wL_mk, wR_mk, setR_same, setR_setR, rZ_0, rZ_1, rZ_b2, it_b2, it_nb2, it_b21, it_nb21, I_lt, I_le, I_eq, I_div, castI, if_true, if_false, Classical.not_not, m1, Int.reduceEq, not_false_eq_true, e1, gM25, ldM75]
    have tx' : texR t (R' 64 32) (R' 78) := by
      rw [e2 64 (by omega) (by omega), e2 78 (by omega) (by omega)]; exact tx0 tx
    by_cases h2 : lapA (R 66) g
    · rw [b2_f (fun h => h.2 h2)] at k1
      have e5 : R' 75 g = -1 := by
        rcases e4 with h | h
        · exact h.1
        · exact absurd h2 h.1
      rw [e5] at mm
      refine ⟨I (-1), mk Q w rf, mk R' v rm, ?_, mm, Q, w, rf, R', v, rm, rfl, rfl, hr, hr', INV_75 inv0 e2, tx'⟩
      simp (disch := first | assumption | omega) only [fX12_lapses, fX12_lapses_b17, I_lit, orb_I, I_add, I_sub, I_mul, I_neg, nm_eq, bd0_s, bd2_s, un2_eq, un3_eq, un4_eq, un5_eq, un6_eq, cs2_l, cs2_r, mk_1, mk_2, wI_mk, wL_mk, wR_mk, setR_same, setR_setR, rZ_0, rZ_1, rZ_b2, it_b2, it_nb2, it_b21, it_nb21, I_lt, I_le, I_eq, I_div, castI, if_true, if_false, Classical.not_not, k1]
    · rw [b2_t ⟨h1, h2⟩] at k1
      obtain ⟨r, Q', c1, c2, c3⟩ := C_lapseOf (S := S) (w := w) hS hr wf lo.1 cp cl h1 h2
      have er := lapI_u e4 c2
      rw [er] at mm
      refine ⟨I r, mk Q' w rf, mk R' v rm, ?_, mm, Q', w, rf, R', v, rm, rfl, rfl, hr, hr', INV_75 (INV_f inv0 c3) e2, tx'⟩
      simp (disch := first | assumption | omega) only [fX12_lapses, fX12_lapses_b17, I_lit, orb_I, I_add, I_sub, I_mul, I_neg, nm_eq, bd0_s, bd2_s, un2_eq, un3_eq, un4_eq, un5_eq, un6_eq, cs2_l, cs2_r, mk_1, mk_2, wI_mk, wL_mk, wR_mk, setR_same, setR_setR, rZ_0, rZ_1, rZ_b2, it_b2, it_nb2, it_b21, it_nb21, I_lt, I_le, I_eq, I_div, castI, if_true, if_false, Classical.not_not, k1, Int.reduceEq, c1]
  · rw [b2_f h1] at m1
    rw [b2_f (fun h => h1 h.1)] at k1
    refine ⟨I (-1), mk Q w rf, mk (th0 R) v rm, ?_, ?_, Q, w, rf, th0 R, v, rm, rfl, rfl, hr, hr', inv0, tx0 tx⟩
    · simp (disch := first | assumption | omega) only [fX12_lapses, fX12_lapses_b17, I_lit, orb_I, I_add, I_sub, I_mul, I_neg, nm_eq, bd0_s, bd2_s, un2_eq, un3_eq, un4_eq, un5_eq, un6_eq, cs2_l, cs2_r, mk_1, mk_2, wI_mk, wL_mk, wR_mk, setR_same, setR_setR, rZ_0, rZ_1, rZ_b2, it_b2, it_nb2, it_b21, it_nb21, I_lt, I_le, I_eq, I_div, castI, if_true, if_false, Classical.not_not, k1]
    · simp only [fX13_lapses, th0_I]
      simp (disch := first | assumption | omega) only [I_lit, orb_I, I_add, I_sub, I_mul, I_neg, nm_eq, bd0_s, bd2_s, un2_eq, un3_eq, un4_eq, un5_eq, un6_eq, cs2_l, cs2_r, mk_1, mk_2, wI_mk, wL_mk, wR_mk, setR_same, setR_setR, rZ_0, rZ_1, rZ_b2, it_b2, it_nb2, it_b21, it_nb21, I_lt, I_le, I_eq, I_div, castI, if_true, if_false, Classical.not_not, m1, not_true]
theorem op_soonest {S S' : Nat → Nat × Nat} (hS : SCok S) (hS' : SMok S') : OpC1 (fun σ => fX12_soonest S σ 64) (fun σ => fX13_soonest S' σ 64) := by
  intro t σC σM ⟨Q, w, rf, R, v, rm, q1, q2, hr, hr', inv, tx⟩; subst q1; subst q2
  have inv0 := INV_th inv
  have r66 : th0 R 66 = R 66 := th0_ne (by omega)
  obtain ⟨ta, ⟨wf, cp, nam⟩, ⟨lo, cl⟩, -⟩ := inv
  have wn1 := wf.2.1
  have hb := lo.1.1
  obtain ⟨R', e1, e2, e3⟩ := M_layLapses (S := S') (w := v) (R := th0 R) hS' hr' (by rw [r66]; exact wf) (by rw [r66]; exact lo)
  rw [r66] at e3
  have R'66 : R' 66 = R 66 := by rw [e2 66 (by omega) (by omega), r66]
  have lr : ∀ g, 0 ≤ g → g < R 66 1 → -1 ≤ R' 75 g ∧ R' 75 g < 600 := by
    intro g h1 h2
    rcases e3 g h1 h2 with h | ⟨h3, i, h4, h5, h6⟩
    · omega
    · omega
  generalize hb2 : (fun (k : Nat) => Nat.rec (motive := fun _ => Int) (-1) (fun n (z : Int) => if R' 75 n = -1 then z else if z = -1 then (n : Int) else if R' 75 z ≤ R' 75 n then z else (n : Int)) k) = bst
  have b0 : bst 0 = -1 := by subst hb2; rfl
  have bs : ∀ n, bst (n + 1) = if R' 75 n = -1 then bst n else if bst n = -1 then (n : Int) else if R' 75 (bst n) ≤ R' 75 n then bst n else (n : Int) := by
    intro n; subst hb2; rfl
  have br : ∀ n : Nat, (-1 ≤ bst n ∧ bst n < n) ∧ (bst n ≠ -1 → R' 75 (bst n) ≠ -1) := by
    intro n
    induction n with
    | zero => rw [b0]; exact ⟨by omega, fun h => absurd rfl h⟩
    | succ n ih =>
      rw [bs n]
      split
      · exact ⟨by omega, ih.2⟩
      · split
        · exact ⟨by omega, fun _ => by assumption⟩
        · split
          · exact ⟨by omega, ih.2⟩
          · exact ⟨by omega, fun _ => by assumption⟩
  have l2 := loop_seq (f := fX13_soonest_L13 S' (mk R' v rm) 64) (m := 1000) (fun k => (I (bst k), I k)) (R 66 1).toNat (r := I (bst (R 66 1).toNat)) (by omega) (by
    intro k hk
    have h5 : ¬ (R 66 1 ≤ (k : Int)) := by omega
    have lk := lr k (by omega) (by omega)
    have bk := br k
    have ek : ((k + 1 : Nat) : Int) = (k : Int) + 1 := by omega
    rw [bs k, ek]
    by_cases q1 : R' 75 k = -1
    · simp (disch := first | assumption | omega) only [fX13_soonest_L13, fX13_soonest_b55, I_lit, orb_I, I_add, I_sub, I_mul, I_neg, nm_eq, bd0_s, bd2_s, un2_eq, un3_eq, un4_eq, un5_eq, un6_eq, cs2_l, cs2_r, mk_1, mk_2, wI_mk, wL_mk, wR_mk, setR_same, setR_setR, rZ_0, rZ_1, rZ_b2, it_b2, it_nb2, it_b21, it_nb21, I_lt, I_le, I_eq, I_div, castI, if_true, if_false, Classical.not_not, gM14, ldM66, R'66, h5, gM25, ldM75, q1]
    · by_cases q2 : bst k = -1
      · simp (disch := first | assumption | omega) only [fX13_soonest_L13, fX13_soonest_b55, fX13_soonest_b53, I_lit, orb_I, I_add, I_sub, I_mul, I_neg, nm_eq, bd0_s, bd2_s, un2_eq, un3_eq, un4_eq, un5_eq, un6_eq, cs2_l, cs2_r, mk_1, mk_2, wI_mk, wL_mk, wR_mk, setR_same, setR_setR, rZ_0, rZ_1, rZ_b2, it_b2, it_nb2, it_b21, it_nb21, I_lt, I_le, I_eq, I_div, castI, if_true, if_false, Classical.not_not, gM14, ldM66, R'66, h5, gM25, ldM75, q1, q2]
      · have lk2 := lr (bst k) (by omega) (by omega)
        simp (disch := first | assumption | omega) only [fX13_soonest_L13, fX13_soonest_b55, fX13_soonest_b53, I_lit, orb_I, I_add, I_sub, I_mul, I_neg, nm_eq, bd0_s, bd2_s, un2_eq, un3_eq, un4_eq, un5_eq, un6_eq, cs2_l, cs2_r, mk_1, mk_2, wI_mk, wL_mk, wR_mk, setR_same, setR_setR, rZ_0, rZ_1, rZ_b2, it_b2, it_nb2, it_b21, it_nb21, I_lt, I_le, I_eq, I_div, castI, if_true, if_false, Classical.not_not, gM14, ldM66, R'66, h5, gM25, ldM75, q1, q2]
        split <;> rfl) (by
    have h5 : (R 66 1 ≤ ((R 66 1).toNat : Int)) := by omega
    simp (disch := first | assumption | omega) only [fX13_soonest_L13, I_lit, orb_I, I_add, I_sub, I_mul, I_neg, nm_eq, bd0_s, bd2_s, un2_eq, un3_eq, un4_eq, un5_eq, un6_eq, cs2_l, cs2_r, mk_1, mk_2, wI_mk, wL_mk, wR_mk, setR_same, setR_setR, rZ_0, rZ_1, rZ_b2, it_b2, it_nb2, it_b21, it_nb21, I_lt, I_le, I_eq, I_div, castI, if_true, if_false, Classical.not_not, gM14, ldM66, R'66, h5])
  have e0 : (I (bst 0), I ((0 : Nat) : Int)) = (I (-1), I 0) := by rw [b0]; rfl
  simp only [e0] at l2
  obtain ⟨τ, h3, Q1, r1, c1⟩ := loop_inv (f := fX12_soonest_L8 S 64) (m := 1000) (s := (I (-1), I 600, I 0, mk Q w rf)) (fun k s => ∃ Q', s = (I (bst k), I (ii (bst k = -1) 600 (R' 75 (bst k))), I k, mk Q' w rf) ∧ (∀ a, a < 186 ∨ 188 < a → Q' a = Q a)) (fun r => ∃ Q', r = (I (bst (R 66 1).toNat), mk Q' w rf) ∧ (∀ a, a < 186 ∨ 188 < a → Q' a = Q a)) (R 66 1).toNat (by omega) ⟨Q, by rw [b0, ii_t rfl]; rfl, fun a h => rfl⟩ (by
      intro k s hk ⟨Q', hs, c1⟩
      subst hs
      left
      have h5 : ¬ (R 66 1 ≤ (k : Int)) := by omega
      have lk := lr k (by omega) (by omega)
      have bk := br k
      have ek : ((k + 1 : Nat) : Int) = (k : Int) + 1 := by omega
      have cp1 : CP 67 Q' (R 66) := CP_q cp (fun a h1 h2 => c1 a (by omega))
      have cl1 : CL 104 Q' (R 66) := CL_q cl (fun a h1 h2 => c1 a (by omega))
      have d1 : Q' 67 12 = R 66 1 := cp1.1.2.1
      have lk2 : bst k ≠ -1 → -1 ≤ R' 75 (bst k) ∧ R' 75 (bst k) < 600 := fun h => lr (bst k) (by omega) (by omega)
      have iir : -1 ≤ ii (bst k = -1) 600 (R' 75 (bst k)) ∧ ii (bst k = -1) 600 (R' 75 (bst k)) ≤ 600 := by
        unfold ii
        split
        · omega
        · have := lk2 (by assumption)
          omega
      rcases e3 k (by omega) (by omega) with hE
      by_cases ql : lapA (R 66) k
      · have q1 : R' 75 k = -1 := by
          rcases hE with h | h
          · exact h.1
          · exact absurd ql h.1
        refine ⟨_, ?_, Q', by rw [bs k, if_pos q1], c1⟩
        simp (disch := first | assumption | omega) only [fX12_soonest_L8, fX12_soonest_b39, fX12_soonest_b58, I_lit, orb_I, I_add, I_sub, I_mul, I_neg, nm_eq, bd0_s, bd2_s, un2_eq, un3_eq, un4_eq, un5_eq, un6_eq, cs2_l, cs2_r, mk_1, mk_2, wI_mk, wL_mk, wR_mk, setR_same, setR_setR, rZ_0, rZ_1, rZ_b2, it_b2, it_nb2, it_b21, it_nb21, I_lt, I_le, I_eq, I_div, castI, if_true, if_false, Classical.not_not, gC64_1, d1, h5, gC64_4, C_isLapsed cl1, ql]
        rw [ek]
      · obtain ⟨r, Q2, f1, f2, f3⟩ := C_lapseOf (S := S) (w := w) (g := (k : Int)) hS hr wf lo.1 cp1 cl1 (by omega) ql
        have er := lapI_u f2 hE
        subst er
        have q3 : ∀ a, a < 186 ∨ 188 < a → Q2 a = Q a := fun a ha => by rw [f3 a ha, c1 a ha]
        by_cases q1 : R' 75 k = -1
        · refine ⟨_, ?_, Q2, by rw [bs k, if_pos q1], q3⟩
          simp (disch := first | assumption | omega) only [fX12_soonest_L8, fX12_soonest_b39, fX12_soonest_b58, I_lit, orb_I, I_add, I_sub, I_mul, I_neg, nm_eq, bd0_s, bd2_s, un2_eq, un3_eq, un4_eq, un5_eq, un6_eq, cs2_l, cs2_r, mk_1, mk_2, wI_mk, wL_mk, wR_mk, setR_same, setR_setR, rZ_0, rZ_1, rZ_b2, it_b2, it_nb2, it_b21, it_nb21, I_lt, I_le, I_eq, I_div, castI, if_true, if_false, Classical.not_not, gC64_1, d1, h5, gC64_4, C_isLapsed cl1, ql, f1, q1]
          rw [ek]
        · by_cases q2 : bst k = -1
          · refine ⟨_, ?_, Q2, by rw [bs k, if_neg q1, if_pos q2], q3⟩
            have q4 : ¬ ((600 : Int) ≤ R' 75 k) := by omega
            have q5 : ¬ ((k : Int) = -1) := by omega
            rw [ii_t q2, ii_f q5]
            simp (disch := first | assumption | omega) only [fX12_soonest_L8, fX12_soonest_b39, fX12_soonest_b58, I_lit, orb_I, I_add, I_sub, I_mul, I_neg, nm_eq, bd0_s, bd2_s, un2_eq, un3_eq, un4_eq, un5_eq, un6_eq, cs2_l, cs2_r, mk_1, mk_2, wI_mk, wL_mk, wR_mk, setR_same, setR_setR, rZ_0, rZ_1, rZ_b2, it_b2, it_nb2, it_b21, it_nb21, I_lt, I_le, I_eq, I_div, castI, if_true, if_false, Classical.not_not, gC64_1, d1, h5, gC64_4, C_isLapsed cl1, ql, f1, q1, q4]
            rw [ek]
          · have lk3 := lk2 q2
            by_cases q4 : R' 75 (bst k) ≤ R' 75 k
            · refine ⟨_, ?_, Q2, by rw [bs k, if_neg q1, if_neg q2, if_pos q4], q3⟩
              rw [ii_f q2]
              simp (disch := first | assumption | omega) only [fX12_soonest_L8, fX12_soonest_b39, fX12_soonest_b58, I_lit, orb_I, I_add, I_sub, I_mul, I_neg, nm_eq, bd0_s, bd2_s, un2_eq, un3_eq, un4_eq, un5_eq, un6_eq, cs2_l, cs2_r, mk_1, mk_2, wI_mk, wL_mk, wR_mk, setR_same, setR_setR, rZ_0, rZ_1, rZ_b2, it_b2, it_nb2, it_b21, it_nb21, I_lt, I_le, I_eq, I_div, castI, if_true, if_false, Classical.not_not, gC64_1, d1, h5, gC64_4, C_isLapsed cl1, ql, f1, q1, q4]
              rw [ek]
            · have q5 : ¬ ((k : Int) = -1) := by omega
              refine ⟨_, ?_, Q2, by rw [bs k, if_neg q1, if_neg q2, if_neg q4], q3⟩
              rw [ii_f q2, ii_f q5]
              simp (disch := first | assumption | omega) only [fX12_soonest_L8, fX12_soonest_b39, fX12_soonest_b58, I_lit, orb_I, I_add, I_sub, I_mul, I_neg, nm_eq, bd0_s, bd2_s, un2_eq, un3_eq, un4_eq, un5_eq, un6_eq, cs2_l, cs2_r, mk_1, mk_2, wI_mk, wL_mk, wR_mk, setR_same, setR_setR, rZ_0, rZ_1, rZ_b2, it_b2, it_nb2, it_b21, it_nb21, I_lt, I_le, I_eq, I_div, castI, if_true, if_false, Classical.not_not, gC64_1, d1, h5, gC64_4, C_isLapsed cl1, ql, f1, q1, q4]
              rw [ek]) (by
      intro s ⟨Q', hs, c1⟩
      subst hs
      have cp1 : CP 67 Q' (R 66) := CP_q cp (fun a h1 h2 => c1 a (by omega))
      have d1 : Q' 67 12 = R 66 1 := cp1.1.2.1
      have h5 : (R 66 1 ≤ ((R 66 1).toNat : Int)) := by omega
      refine ⟨_, ?_, Q', rfl, c1⟩
      simp (disch := first | assumption | omega) only [fX12_soonest_L8, I_lit, orb_I, I_add, I_sub, I_mul, I_neg, nm_eq, bd0_s, bd2_s, un2_eq, un3_eq, un4_eq, un5_eq, un6_eq, cs2_l, cs2_r, mk_1, mk_2, wI_mk, wL_mk, wR_mk, setR_same, setR_setR, rZ_0, rZ_1, rZ_b2, it_b2, it_nb2, it_b21, it_nb21, I_lt, I_le, I_eq, I_div, castI, if_true, if_false, Classical.not_not, gC64_1, d1, h5])
  subst r1
  refine ⟨I (bst (R 66 1).toNat), mk Q1 w rf, mk R' v rm, ?_, ?_, Q1, w, rf, R', v, rm, rfl, rfl, hr, hr', INV_75 (INV_f inv0 c1) e2, ?_⟩
  · simp (disch := first | assumption | omega) only [fX12_soonest, I_lit, orb_I, I_add, I_sub, I_mul, I_neg, nm_eq, bd0_s, bd2_s, un2_eq, un3_eq, un4_eq, un5_eq, un6_eq, cs2_l, cs2_r, mk_1, mk_2, wI_mk, wL_mk, wR_mk, setR_same, setR_setR, rZ_0, rZ_1, rZ_b2, it_b2, it_nb2, it_b21, it_nb21, I_lt, I_le, I_eq, I_div, castI, if_true, if_false, Classical.not_not, h3]
  · simp only [fX13_soonest, th0_I]
    simp (disch := first | assumption | omega) only [I_lit, orb_I, I_add, I_sub, I_mul, I_neg, nm_eq, bd0_s, bd2_s, un2_eq, un3_eq, un4_eq, un5_eq, un6_eq, cs2_l, cs2_r, mk_1, mk_2, wI_mk, wL_mk, wR_mk, setR_same, setR_setR, rZ_0, rZ_1, rZ_b2, it_b2, it_nb2, it_b21, it_nb21, I_lt, I_le, I_eq, I_div, castI, if_true, if_false, Classical.not_not, e1, l2]
  · rw [e2 64 (by omega) (by omega), e2 78 (by omega) (by omega)]; exact tx0 tx
