def noL (N : Int → Int) (g l : Int) (K : Nat) : Prop := ∀ k : Nat, k < K → ¬ lpC N g (N (125 + g)) (N (133 + g)) l k
theorem noL_mono {N : Int → Int} {g l l' : Int} {K : Nat} (h : noL N g l K) (hl : l ≤ l') : noL N g l' K := fun k hk hc => h k hk ⟨hc.1, hc.2.1, by have := hc.2.2; omega⟩
def okL (N : Int → Int) (s l : Int) (K n : Nat) : Prop := ∀ g : Nat, g < n → hasA (I s) g → noL N g l K
def lawR (N : Int → Int) (s : Int) (K : Nat) (r : Int) : Prop := (r = -1 ∧ ∀ l, 1 ≤ l → l ≤ 9 → ¬ okL N s l K (N 1).toNat) ∨ ((1 ≤ r ∧ r ≤ 9) ∧ okL N s r K (N 1).toNat ∧ ∀ l, 1 ≤ l → l < r → ¬ okL N s l K (N 1).toNat)
theorem lawR_u {N : Int → Int} {s r r' : Int} {K : Nat} (h : lawR N s K r) (h' : lawR N s K r') : r = r' := by
  rcases h with ⟨a1, a2⟩ | ⟨a1, a2, a3⟩
  · rcases h' with ⟨b1, b2⟩ | ⟨b1, b2, b3⟩
    · omega
    · exact absurd b2 (a2 r' b1.1 b1.2)
  · rcases h' with ⟨b1, b2⟩ | ⟨b1, b2, b3⟩
    · exact absurd a2 (b2 r a1.1 a1.2)
    · by_cases c : r < r'
      · exact absurd a2 (b3 r a1.1 c)
      · by_cases c2 : r' < r
        · exact absurd b2 (a3 r' b1.1 c2)
        · omega
theorem set_bits {s : Int} {x : Int32} {n : Nat} (hn : n ≤ 4) (hs : 0 ≤ s ∧ s < pw n) : (I s &&& x = I 0) ↔ ∀ g : Nat, g < n → hasA (I s) g → ¬ hasA x g := by
  have hs2 : 0 ≤ s ∧ s < 2 ^ n := by
    unfold pw at hs
    have : ((n : Int)).toNat = n := by omega
    rw [this] at hs
    exact hs
  have h2 : ∀ j, (I 0).toBitVec.getLsbD j = false := by
    intro j
    have : (I 0).toBitVec = 0#32 := rfl
    rw [this]; simp
  constructor
  · intro h g hg h3 h4
    have h5 := congrArg (fun y : Int32 => y.toBitVec.getLsbD g) h
    simp only [Int32.toBitVec_and, BitVec.getLsbD_and, h2] at h5
    have h6 := (hasA_bit (s := I s) (j := (g : Int)) (by omega)).1 h3
    have h7 := (hasA_bit (s := x) (j := (g : Int)) (by omega)).1 h4
    have e : ((g : Int)).toNat = g := by omega
    rw [e] at h6 h7
    rw [h6, h7] at h5
    exact absurd h5 (by decide)
  · intro h
    rw [← Int32.toBitVec_inj]
    apply BitVec.eq_of_getLsbD_eq
    intro j hj
    rw [h2, Int32.toBitVec_and, BitVec.getLsbD_and]
    by_cases hjn : j < n
    · by_cases h3 : (I s).toBitVec.getLsbD j = true
      · have e : ((j : Int)).toNat = j := by omega
        have h4 : hasA (I s) (j : Int) := (hasA_bit (by omega)).2 (by rw [e]; exact h3)
        have h5 := h j hjn h4
        rw [hasA_bit (by omega), e] at h5
        simp [h5]
      · simp [h3]
    · rw [small_bit hs2 (by omega) (by omega)]
      rfl
theorem C_leastGrace {S : Nat → Nat × Nat} {Q : Nat → Int → Int} {w : Nat → Nat → Int64} {rf : Nat → Nat → Option Nat} {N : Int → Int} {g n from0 : Int} {K : Nat} (hS : SCok S) (hr : RCok rf) (wf : WFP N) (wl : WFL N) (cp : CP 67 Q N) (cl : CL 104 Q N) (hg : 0 ≤ g ∧ g < N 1) (hn : 1 ≤ n ∧ n ≤ 60) (hK : (K : Int) = min n (600 - N 102)) (hf : 1 ≤ from0 ∧ from0 ≤ 10) : ∃ r Q', fX12_leastGrace S (mk Q w rf) 64 (I g) (I n) (I from0) = some (I r, mk Q' w rf) ∧ (from0 ≤ r ∧ r ≤ 10) ∧ (∀ l, from0 ≤ l → l < r → ¬ noL N g l K) ∧ (r ≤ 9 → noL N g r K) ∧ (∀ a, a < 186 ∨ 188 < a → Q' a = Q a) := by
  have hb := wl.1
  have wn1 := wf.2.1
  have hle := wl.2.2.2.1 g hg.1 (by omega)
  obtain ⟨Q1, l1, l2, l3⟩ := C_look (S := S) (w := w) hS hr wf wl cp cl hg
  have cl1 : CL 104 Q1 N := CL_q cl (fun a h1 h2 => l3 a (by omega))
  have cp1 : CP 67 Q1 N := CP_q cp (fun a h1 h2 => l3 a (by omega))
  obtain ⟨d1, -⟩ := cl1.2.2 g hg.1 hg.2
  have c102 := cl1.1.1
  have il := isLife104
  obtain ⟨r, e1, r', e2, e3, e4, e5⟩ := loop_inv (f := fX12_leastGrace_L29 S (mk Q1 w rf) 64 (I g) (I (N 102 + K))) (m := 1000) (s := I from0) (fun k s => s = I (from0 + k) ∧ from0 + k ≤ 10 ∧ ∀ l, from0 ≤ l → l < from0 + k → ¬ noL N g l K) (fun r => ∃ r', r = I r' ∧ (from0 ≤ r' ∧ r' ≤ 10) ∧ (∀ l, from0 ≤ l → l < r' → ¬ noL N g l K) ∧ (r' ≤ 9 → noL N g r' K)) (10 - from0).toNat (by omega) ⟨by rw [show ((0 : Nat) : Int) = 0 from rfl, Int.add_zero], by omega, fun l h1 h2 => by omega⟩ (by
      intro k s hk ⟨hs, hk1, hj⟩
      subst hs
      have h5 : ¬ (9 < from0 + (k : Int)) := by omega
      obtain ⟨r, f1, f2⟩ := C_lapseHour (S := S) (w := w) (s := N (125 + g)) (gr := from0 + k) (u := N 102 + K) hS hr wf wl cp1 cl1 l2 hg hle (by omega) (by omega)
      rcases f2 with ⟨p1, p2⟩ | ⟨i, p1, p2, p3, p4⟩
      · right
        subst p1
        refine ⟨I (from0 + k), ?_, from0 + k, rfl, by omega, hj, fun _ i hi => p2 i (by omega)⟩
        simp (disch := first | assumption | omega) only [fX12_leastGrace_L29, I_lit, orb_I, I_add, I_sub, I_mul, I_neg, nm_eq, bd0_s, bd2_s, un2_eq, un3_eq, un4_eq, un5_eq, un6_eq, cs2_l, cs2_r, mk_1, mk_2, wI_mk, wL_mk, wR_mk, setR_same, setR_setR, rZ_0, rZ_1, rZ_b2, it_b2, it_nb2, it_b21, it_nb21, I_lt, I_le, I_eq, I_div, castI, if_true, if_false, Classical.not_not, h5, gC64_7, gC64_4, gL6 (l := 104), ldL3 (l := 104), d1, f1]
      · left
        have hne : ¬ (r = -1) := by omega
        refine ⟨I (from0 + ((k + 1 : Nat) : Int)), ?_, rfl, by omega, ?_⟩
        · have ek : from0 + (k : Int) + 1 = from0 + ((k + 1 : Nat) : Int) := by omega
          simp (disch := first | assumption | omega) only [fX12_leastGrace_L29, I_lit, orb_I, I_add, I_sub, I_mul, I_neg, nm_eq, bd0_s, bd2_s, un2_eq, un3_eq, un4_eq, un5_eq, un6_eq, cs2_l, cs2_r, mk_1, mk_2, wI_mk, wL_mk, wR_mk, setR_same, setR_setR, rZ_0, rZ_1, rZ_b2, it_b2, it_nb2, it_b21, it_nb21, I_lt, I_le, I_eq, I_div, castI, if_true, if_false, Classical.not_not, h5, gC64_7, gC64_4, gL6 (l := 104), ldL3 (l := 104), d1, f1, hne]
          rw [ek]
        · intro l h1 h2 hno
          by_cases e : l = from0 + k
          · rw [e] at hno
            exact hno i (by omega) p3
          · exact hj l h1 (by omega) hno) (by
      intro s ⟨hs, hk1, hj⟩
      subst hs
      have h5 : (9 < from0 + ((10 - from0).toNat : Int)) := by omega
      refine ⟨_, ?_, from0 + ((10 - from0).toNat : Int), rfl, by omega, hj, fun h => by omega⟩
      simp (disch := first | assumption | omega) only [fX12_leastGrace_L29, I_lit, orb_I, I_add, I_sub, I_mul, I_neg, nm_eq, bd0_s, bd2_s, un2_eq, un3_eq, un4_eq, un5_eq, un6_eq, cs2_l, cs2_r, mk_1, mk_2, wI_mk, wL_mk, wR_mk, setR_same, setR_setR, rZ_0, rZ_1, rZ_b2, it_b2, it_nb2, it_b21, it_nb21, I_lt, I_le, I_eq, I_div, castI, if_true, if_false, Classical.not_not, h5])
  subst e2
  refine ⟨r', Q1, ?_, e3, e4, e5, l3⟩
  simp (disch := first | assumption | omega) only [fX12_leastGrace, fX12_leastGrace_b66, I_lit, orb_I, I_add, I_sub, I_mul, I_neg, nm_eq, bd0_s, bd2_s, un2_eq, un3_eq, un4_eq, un5_eq, un6_eq, cs2_l, cs2_r, mk_1, mk_2, wI_mk, wL_mk, wR_mk, setR_same, setR_setR, rZ_0, rZ_1, rZ_b2, it_b2, it_nb2, it_b21, it_nb21, I_lt, I_le, I_eq, I_div, castI, if_true, if_false, Classical.not_not, gC64_7, l1, gC64_4, fX3_hoursOf, c102, mnI_I, ← hK, e1]
theorem C_lawL {S : Nat → Nat × Nat} {Q : Nat → Int → Int} {w : Nat → Nat → Int64} {rf : Nat → Nat → Option Nat} {N : Int → Int} {s n : Int} {K : Nat} (hS : SCok S) (hr : RCok rf) (wf : WFP N) (wl : WFL N) (cp : CP 67 Q N) (cl : CL 104 Q N) (hn : 1 ≤ n ∧ n ≤ 60) (hK : (K : Int) = min n (600 - N 102)) : ∃ r Q', loopN (fX12_law_L46 S 64 (I s) (I n)) 1000 (I 1, I 0, mk Q w rf) = some (I r, mk Q' w rf) ∧ (1 ≤ r ∧ r ≤ 10) ∧ (r ≤ 9 → okL N s r K (N 1).toNat) ∧ (∀ l, 1 ≤ l → l < r → ¬ okL N s l K (N 1).toNat) ∧ (∀ a, a < 186 ∨ 188 < a → Q' a = Q a) := by
  have wn1 := wf.2.1
  obtain ⟨r, e1, r', Q', e2, e3, e4, e5, e6⟩ := loop_inv (f := fX12_law_L46 S 64 (I s) (I n)) (m := 1000) (s := (I 1, I 0, mk Q w rf)) (fun k t => ∃ r Q', t = (I r, I k, mk Q' w rf) ∧ (1 ≤ r ∧ r ≤ 10) ∧ (r ≤ 9 → okL N s r K k) ∧ (∀ l, 1 ≤ l → l < r → ¬ okL N s l K k) ∧ (∀ a, a < 186 ∨ 188 < a → Q' a = Q a)) (fun t => ∃ r Q', t = (I r, mk Q' w rf) ∧ (1 ≤ r ∧ r ≤ 10) ∧ (r ≤ 9 → okL N s r K (N 1).toNat) ∧ (∀ l, 1 ≤ l → l < r → ¬ okL N s l K (N 1).toNat) ∧ (∀ a, a < 186 ∨ 188 < a → Q' a = Q a)) (N 1).toNat (by omega) ⟨1, Q, rfl, by omega, fun _ g h => by omega, fun l h1 h2 => by omega, fun a h => rfl⟩ (by
      intro k t hk ⟨r, Q', ht, b1, b2, b3, b4⟩
      subst ht
      left
      have cp1 : CP 67 Q' N := CP_q cp (fun a h1 h2 => b4 a (by omega))
      have cl1 : CL 104 Q' N := CL_q cl (fun a h1 h2 => b4 a (by omega))
      have d1 : Q' 67 12 = N 1 := cp1.1.2.1
      have h5 : ¬ (N 1 ≤ (k : Int)) := by omega
      by_cases q : hasA (I s) k
      · obtain ⟨r2, Q2, f1, f2, f3, f4, f5⟩ := C_leastGrace (S := S) (w := w) (g := (k : Int)) (n := n) (from0 := r) (K := K) hS hr wf wl cp1 cl1 (by omega) hn hK b1
        have q' : ¬ ¬ (I s >>> (I (k : Int) &&& I 31) &&& I 1 = I 1) := fun h => h q
        refine ⟨(I r2, I ((k + 1 : Nat) : Int), mk Q2 w rf), ?_, r2, Q2, rfl, by omega, ?_, ?_, ?_⟩
        · simp (disch := first | assumption | omega) only [fX12_law_L46, fX12_law_b77, I_lit, orb_I, I_add, I_sub, I_mul, I_neg, nm_eq, bd0_s, bd2_s, un2_eq, un3_eq, un4_eq, un5_eq, un6_eq, cs2_l, cs2_r, mk_1, mk_2, wI_mk, wL_mk, wR_mk, setR_same, setR_setR, rZ_0, rZ_1, rZ_b2, it_b2, it_nb2, it_b21, it_nb21, I_lt, I_le, I_eq, I_div, castI, if_true, if_false, Classical.not_not, gC64_1, d1, h5, f1]
          rw [if_neg q']
          rfl
        · intro h9 g hg hh
          by_cases e : g = k
          · rw [e]; exact f4 h9
          · exact noL_mono (b2 (by omega) g (by omega) hh) (by omega)
        · intro l h1 h2 hok
          by_cases c : l < r
          · exact b3 l h1 c (fun g hg hh => hok g (by omega) hh)
          · exact f3 l (by omega) h2 (hok k (by omega) q)
        · intro a ha
          rw [f5 a ha, b4 a ha]
      · have q' : ¬ (I s >>> (I (k : Int) &&& I 31) &&& I 1 = I 1) := q
        refine ⟨(I r, I ((k + 1 : Nat) : Int), mk Q' w rf), ?_, r, Q', rfl, b1, ?_, ?_, b4⟩
        · simp (disch := first | assumption | omega) only [fX12_law_L46, fX12_law_b77, I_lit, orb_I, I_add, I_sub, I_mul, I_neg, nm_eq, bd0_s, bd2_s, un2_eq, un3_eq, un4_eq, un5_eq, un6_eq, cs2_l, cs2_r, mk_1, mk_2, wI_mk, wL_mk, wR_mk, setR_same, setR_setR, rZ_0, rZ_1, rZ_b2, it_b2, it_nb2, it_b21, it_nb21, I_lt, I_le, I_eq, I_div, castI, if_true, if_false, Classical.not_not, gC64_1, d1, h5]
          rw [if_pos q']
          rfl
        · intro h9 g hg hh
          by_cases e : g = k
          · rw [e] at hh; exact absurd hh q
          · exact b2 h9 g (by omega) hh
        · intro l h1 h2 hok
          exact b3 l h1 h2 (fun g hg hh => hok g (by omega) hh)) (by
      intro t ⟨r, Q', ht, b1, b2, b3, b4⟩
      subst ht
      have cp1 : CP 67 Q' N := CP_q cp (fun a h1 h2 => b4 a (by omega))
      have d1 : Q' 67 12 = N 1 := cp1.1.2.1
      have h5 : (N 1 ≤ ((N 1).toNat : Int)) := by omega
      refine ⟨_, ?_, r, Q', rfl, b1, b2, b3, b4⟩
      simp (disch := first | assumption | omega) only [fX12_law_L46, I_lit, orb_I, I_add, I_sub, I_mul, I_neg, nm_eq, bd0_s, bd2_s, un2_eq, un3_eq, un4_eq, un5_eq, un6_eq, cs2_l, cs2_r, mk_1, mk_2, wI_mk, wL_mk, wR_mk, setR_same, setR_setR, rZ_0, rZ_1, rZ_b2, it_b2, it_nb2, it_b21, it_nb21, I_lt, I_le, I_eq, I_div, castI, if_true, if_false, Classical.not_not, gC64_1, d1, h5])
  subst e2
  exact ⟨r', Q', e1, e3, e4, e5, e6⟩
theorem WFP_3 {N : Int → Int} {l : Int} (wf : WFP N) (hl : 1 ≤ l ∧ l ≤ 9) : WFP (updf N 3 l) := by
  obtain ⟨wn0, wn1, wn2, wn3, wn4, wn5, wn6, wn7, wfr, wto, wff, wwa, wco, wwd, wgl, wgr, wnk, wda, wdr, wgo, wg1, wg2, wwx⟩ := wf
  have rp : ∀ a lo hi n, 4 ≤ a → rP N a lo hi n → rP (updf N 3 l) a lo hi n := fun a lo hi n ha h p h1 h2 => by
    rw [updf_ne (by omega)]; exact h p h1 h2
  unfold WFP
  rw [updf_ne (y := 0) (by omega), updf_ne (y := 1) (by omega), updf_ne (y := 2) (by omega), updf_same rfl, updf_ne (y := 4) (by omega), updf_ne (y := 5) (by omega), updf_ne (y := 6) (by omega), updf_ne (y := 7) (by omega)]
  refine ⟨wn0, wn1, wn2, hl, wn4, wn5, wn6, wn7, rp _ _ _ _ (by omega) wfr, rp _ _ _ _ (by omega) wto, rp _ _ _ _ (by omega) wff, rp _ _ _ _ (by omega) wwa, rp _ _ _ _ (by omega) wco, fun p h1 h2 => ?_, fun g h1 h2 => ?_, rp _ _ _ _ (by omega) wgr, rp _ _ _ _ (by omega) wnk, rp _ _ _ _ (by omega) wda, rp _ _ _ _ (by omega) wdr, rp _ _ _ _ (by omega) wgo, rp _ _ _ _ (by omega) wg1, rp _ _ _ _ (by omega) wg2, fun p h1 h2 => ?_⟩
  · rw [updf_ne (by omega)]; exact wwd p h1 h2
  · have h3 := wgl g h1 h2
    rw [updf_ne (y := 56 + g) (by omega), updf_ne (y := 60 + g) (by omega), updf_ne (y := 64 + g) (by omega), updf_ne (y := 68 + g) (by omega), updf_ne (y := 48 + N (56 + g)) (by omega), updf_ne (y := 48 + N (60 + g)) (by omega)]
    exact h3
  · intro h3
    rw [updf_ne (y := 48 + p) (by omega)] at h3 ⊢
    rw [updf_ne (y := 56 + N (48 + p)) (by omega), updf_ne (y := 60 + N (48 + p)) (by omega)]
    exact wwx p h1 h2 h3
theorem WFL_3 {N : Int → Int} {l : Int} (wl : WFL N) : WFL (updf N 3 l) := by
  obtain ⟨vh, vfo, vnk, vle, vti, vwa, vgl⟩ := wl
  have rp : ∀ a lo hi n, 4 ≤ a → rP N a lo hi n → rP (updf N 3 l) a lo hi n := fun a lo hi n ha h p h1 h2 => by
    rw [updf_ne (by omega)]; exact h p h1 h2
  unfold WFL
  rw [updf_ne (y := 102) (by omega), updf_ne (y := 1) (by omega)]
  refine ⟨vh, rp _ _ _ _ (by omega) vfo, rp _ _ _ _ (by omega) vnk, rp _ _ _ _ (by omega) vle, rp _ _ _ _ (by omega) vti, rp _ _ _ _ (by omega) vwa, fun g h1 h2 => ?_⟩
  rw [updf_ne (y := 121 + g) (by omega), updf_ne (y := 125 + g) (by omega), updf_ne (y := 64 + g) (by omega)]
  exact vgl g h1 h2
theorem law_sim {N : Int → Int} {s l : Int} {K : Nat} (wf : WFP N) (lo : LOK N) (hl : 1 ≤ l ∧ l ≤ 9) (hK : (K : Int) ≤ 600 - N 102) (hs : 0 ≤ s ∧ s < pw (N 1)) (hz : I s &&& I (N 104) = I 0) : I s &&& I (hoursN (updf N 3 l) K 104) = I 0 ↔ okL N s l K (N 1).toNat := by
  have wn1 := wf.2.1
  have en : (((N 1).toNat : Nat) : Int) = N 1 := by omega
  have hs' : 0 ≤ s ∧ s < pw (((N 1).toNat : Nat) : Int) := by rw [en]; exact hs
  rw [set_bits (n := (N 1).toNat) (by omega) hs']
  rw [set_bits (n := (N 1).toNat) (by omega) hs'] at hz
  have wf1 := WFP_3 (l := l) wf hl
  have wl1 := WFL_3 (l := l) lo.1
  have w81 : W8 (updf N 3 l) := W8_cong (W8_of wf lo.2) (updf_ne (by omega)) (updf_ne (by omega)) (fun g h1 h2 => updf_ne (by omega))
  have eF : EqF N (updf N 3 l) := fun j h1 h2 => updf_ne h1
  have key : ∀ g : Nat, g < (N 1).toNat → hasA (I s) g → (¬ hasA (I (hoursN (updf N 3 l) K 104)) g ↔ noL N g l K) := by
    intro g hg hh
    have hnl : ¬ lapA (updf N 3 l) g := by
      unfold lapA
      rw [updf_ne (by omega)]
      exact hz g hg hh
    obtain ⟨s1, s2⟩ := glass_sim wf1 wl1 w81 (g := (g : Int)) (by rw [updf_ne (by omega)]; omega) hnl K (by rw [updf_ne (by omega)]; omega)
    rw [updf_ne (y := 125 + (g : Int)) (by omega), updf_ne (y := 133 + (g : Int)) (by omega), updf_same (y := 3) rfl] at s1 s2
    have lpe : ∀ k, lpC (updf N 3 l) g (N (125 + g)) (N (133 + g)) l k ↔ lpC N g (N (125 + g)) (N (133 + g)) l k := fun k => lp_eq wf eF (by omega) k
    constructor
    · intro h k hk hc
      exact h (s2 ⟨k, hk, (lpe k).2 hc⟩)
    · intro h hh2
      exact (s1 (fun j hj hc => h j hj ((lpe j).1 hc))).1 hh2
  constructor
  · intro h g hg hh
    exact (key g hg hh).1 (h g hg hh)
  · intro h g hg hh
    exact (key g hg hh).2 (h g hg hh)
