theorem M_isPerson {S : Nat → Nat × Nat} {R : Nat → Int → Int} {w : Nat → Nat → Int64} {rf : Nat → Nat → Option Nat} {p : Int} (hS : SMok S) (hr : RMok rf) (wf : WFP (R 66)) (hp : -2147483648 ≤ p ∧ p < 2147483648) : fX13_isPerson S (mk R w rf) 64 (I p) = some (b2 (0 ≤ p ∧ p < R 66 0)) := by
  obtain ⟨wn0, wn1, wn2, wn3, wn4, wn5, wn6, wn7, wfr, wto, wff, wwa, wco, wwd, wgl, wgr, wnk, wda, wdr, wgo, wg1, wg2, wwx⟩ := wf
  simp (disch := first | assumption | omega) only [fX13_isPerson, I_lit, orb_I, I_add, I_sub, I_mul, I_neg, nm_eq, bd0_s, bd2_s, un2_eq, un3_eq, un4_eq, un5_eq, un6_eq, cs2_l, cs2_r, mk_1, mk_2, wI_mk, wL_mk, wR_mk, setR_same, setR_setR, rZ_0, rZ_1, rZ_b2, it_b2, it_nb2, it_b21, it_nb21, I_lt, I_le, I_eq, I_div, castI, if_true, if_false, Classical.not_not, gM14, ldM66, M_isIn]
  rw [b2_eq (q := 0 ≤ p ∧ p < R 66 0) (by omega)]
theorem M_isGlass {S : Nat → Nat × Nat} {R : Nat → Int → Int} {w : Nat → Nat → Int64} {rf : Nat → Nat → Option Nat} {p : Int} (hS : SMok S) (hr : RMok rf) (wf : WFP (R 66)) (hp : -2147483648 ≤ p ∧ p < 2147483648) : fX13_isGlass S (mk R w rf) 64 (I p) = some (b2 (0 ≤ p ∧ p < R 66 1)) := by
  obtain ⟨wn0, wn1, wn2, wn3, wn4, wn5, wn6, wn7, wfr, wto, wff, wwa, wco, wwd, wgl, wgr, wnk, wda, wdr, wgo, wg1, wg2, wwx⟩ := wf
  simp (disch := first | assumption | omega) only [fX13_isGlass, I_lit, orb_I, I_add, I_sub, I_mul, I_neg, nm_eq, bd0_s, bd2_s, un2_eq, un3_eq, un4_eq, un5_eq, un6_eq, cs2_l, cs2_r, mk_1, mk_2, wI_mk, wL_mk, wR_mk, setR_same, setR_setR, rZ_0, rZ_1, rZ_b2, it_b2, it_nb2, it_b21, it_nb21, I_lt, I_le, I_eq, I_div, castI, if_true, if_false, Classical.not_not, gM14, ldM66, M_isIn]
  rw [b2_eq (q := 0 ≤ p ∧ p < R 66 1) (by omega)]
theorem C_hasPerson {S : Nat → Nat × Nat} {Q : Nat → Int → Int} {w : Nat → Nat → Int64} {rf : Nat → Nat → Option Nat} {N : Int → Int} {x : Nat} {p : Int} (hS : SCok S) (hr : RCok rf) (wf : WFP N) (cp : CP x Q N) (hp : -2147483648 ≤ p ∧ p < 2147483648) : fX4_hasPerson S (mk Q w rf) x (I p) = some (b2 (0 ≤ p ∧ p < N 0)) := by
  obtain ⟨wn0, wn1, wn2, wn3, wn4, wn5, wn6, wn7, wfr, wto, wff, wwa, wco, wwd, wgl, wgr, wnk, wda, wdr, wgo, wg1, wg2, wwx⟩ := wf
  obtain ⟨⟨c0, c1, c2, c3, c4, c5, c6, c7⟩, cpp, cpg, cpd, cpk⟩ := cp
  simp (disch := first | assumption | omega) only [fX4_hasPerson, fX4_hasPerson_b16, fX4_hasPerson_b17, I_lit, orb_I, I_add, I_sub, I_mul, I_neg, nm_eq, bd0_s, bd2_s, un2_eq, un3_eq, un4_eq, un5_eq, un6_eq, cs2_l, cs2_r, mk_1, mk_2, wI_mk, wL_mk, wR_mk, setR_same, setR_setR, rZ_0, rZ_1, rZ_b2, it_b2, it_nb2, it_b21, it_nb21, I_lt, I_le, I_eq, I_div, castI, if_true, if_false, Classical.not_not, c0]
  (repeat' split) <;> (first | exact sb_t (by omega) | exact sb_f (by omega))
theorem C_hasGlass {S : Nat → Nat × Nat} {Q : Nat → Int → Int} {w : Nat → Nat → Int64} {rf : Nat → Nat → Option Nat} {N : Int → Int} {x : Nat} {p : Int} (hS : SCok S) (hr : RCok rf) (wf : WFP N) (cp : CP x Q N) (hp : -2147483648 ≤ p ∧ p < 2147483648) : fX4_hasGlass S (mk Q w rf) x (I p) = some (b2 (0 ≤ p ∧ p < N 1)) := by
  obtain ⟨wn0, wn1, wn2, wn3, wn4, wn5, wn6, wn7, wfr, wto, wff, wwa, wco, wwd, wgl, wgr, wnk, wda, wdr, wgo, wg1, wg2, wwx⟩ := wf
  obtain ⟨⟨c0, c1, c2, c3, c4, c5, c6, c7⟩, cpp, cpg, cpd, cpk⟩ := cp
  simp (disch := first | assumption | omega) only [fX4_hasGlass, fX4_hasGlass_b16, fX4_hasGlass_b17, I_lit, orb_I, I_add, I_sub, I_mul, I_neg, nm_eq, bd0_s, bd2_s, un2_eq, un3_eq, un4_eq, un5_eq, un6_eq, cs2_l, cs2_r, mk_1, mk_2, wI_mk, wL_mk, wR_mk, setR_same, setR_setR, rZ_0, rZ_1, rZ_b2, it_b2, it_nb2, it_b21, it_nb21, I_lt, I_le, I_eq, I_div, castI, if_true, if_false, Classical.not_not, c1]
  (repeat' split) <;> (first | exact sb_t (by omega) | exact sb_f (by omega))
def lapA (N : Int → Int) (g : Int) : Prop := hasA (I (N 104)) g
def wokA (N : Int → Int) (p : Int) : Prop := hasA (I (N 103)) p
theorem M_isLapsed {S : Nat → Nat × Nat} {R : Nat → Int → Int} {w : Nat → Nat → Int64} {rf : Nat → Nat → Option Nat} {g : Int} (hS : SMok S) (hr : RMok rf) : fX13_isLapsed S (mk R w rf) 64 (I g) = some (b2 (lapA (R 66) g)) := by
  simp (disch := first | assumption | omega) only [fX13_isLapsed, I_lit, orb_I, I_add, I_sub, I_mul, I_neg, nm_eq, bd0_s, bd2_s, un2_eq, un3_eq, un4_eq, un5_eq, un6_eq, cs2_l, cs2_r, mk_1, mk_2, wI_mk, wL_mk, wR_mk, setR_same, setR_setR, rZ_0, rZ_1, rZ_b2, it_b2, it_nb2, it_b21, it_nb21, I_lt, I_le, I_eq, I_div, castI, if_true, if_false, Classical.not_not, gM14, ldM66, M_has]
  rfl
theorem C_isLapsed {S : Nat → Nat × Nat} {Q : Nat → Int → Int} {w : Nat → Nat → Int64} {rf : Nat → Nat → Option Nat} {N : Int → Int} {l : Nat} {g : Int} (cl : CL l Q N) : fX3_isLapsed S (mk Q w rf) l (I g) = some (b2 (lapA N g)) := by
  obtain ⟨⟨c102, c104, c103⟩, clp, clg⟩ := cl
  by_cases h : hasA (I (N 104)) g
  · have h' := h
    unfold hasA at h'
    simp only [fX3_isLapsed, fX3_isLapsed_b17, mk_1, castI, c104, h', lapA, b2_t h]
    rfl
  · have h' := h
    unfold hasA at h'
    simp only [fX3_isLapsed, fX3_isLapsed_b17, mk_1, castI, c104, h', lapA, b2_f h]
    rfl
theorem C_isWoken {S : Nat → Nat × Nat} {Q : Nat → Int → Int} {w : Nat → Nat → Int64} {rf : Nat → Nat → Option Nat} {N : Int → Int} {l : Nat} {p : Int} (cl : CL l Q N) : fX3_isWoken S (mk Q w rf) l (I p) = some (b2 (wokA N p)) := by
  obtain ⟨⟨c102, c104, c103⟩, clp, clg⟩ := cl
  by_cases h : hasA (I (N 103)) p
  · have h' := h
    unfold hasA at h'
    simp only [fX3_isWoken, fX3_isWoken_b17, mk_1, castI, c103, h', wokA, b2_t h]
    rfl
  · have h' := h
    unfold hasA at h'
    simp only [fX3_isWoken, fX3_isWoken_b17, mk_1, castI, c103, h', wokA, b2_f h]
    rfl
def awkA (N : Int → Int) (p h : Int) : Prop := upA (N (8 + p)) (N (16 + p)) h ∨ (h = N 102 ∧ wokA N p)
theorem M_isAwake {S : Nat → Nat × Nat} {R : Nat → Int → Int} {w : Nat → Nat → Int64} {rf : Nat → Nat → Option Nat} {p h : Int} (hS : SMok S) (hr : RMok rf) (wf : WFP (R 66)) (wl : WFL (R 66)) (hp : 0 ≤ p ∧ p < 8) (hh : 0 ≤ h ∧ h ≤ 600) : fX13_isAwake S (mk R w rf) 64 (I p) (I h) = some (b2 (awkA (R 66) p h)) := by
  have h1 := wl.1
  simp (disch := first | assumption | omega) only [fX13_isAwake, fX13_isAwake_b39, fX13_isAwake_b38, fX13_isAwake_b34, I_lit, orb_I, I_add, I_sub, I_mul, I_neg, nm_eq, bd0_s, bd2_s, un2_eq, un3_eq, un4_eq, un5_eq, un6_eq, cs2_l, cs2_r, mk_1, mk_2, wI_mk, wL_mk, wR_mk, setR_same, setR_setR, rZ_0, rZ_1, rZ_b2, it_b2, it_nb2, it_b21, it_nb21, I_lt, I_le, I_eq, I_div, castI, if_true, if_false, Classical.not_not, gM14, ldM66, M_has, M_isUp hS hr wf hp ⟨hh.1, (by omega : h < 2147483648)⟩]
  unfold awkA wokA
  by_cases h2 : upA (R 66 (8 + p)) (R 66 (16 + p)) h
  · simp only [h2, not_true, if_true, if_false, not_false_eq_true, true_or, b2_t]; rfl
  · by_cases h3 : h = R 66 102
    · by_cases h4 : hasA (I (R 66 103)) p
      · rw [b2_t (Or.inr ⟨h3, h4⟩)]
        simp only [h2, ← h3, h4, not_true, if_true, if_false, not_false_eq_true]; rfl
      · rw [b2_f (by simp only [h2, h4, and_false, or_false, not_false_eq_true])]
        simp only [h2, ← h3, h4, not_true, if_true, if_false, not_false_eq_true]; rfl
    · simp only [h2, h3, not_true, if_true, if_false, not_false_eq_true, false_and, or_false, b2_f]; rfl
theorem C_isAwake {S : Nat → Nat × Nat} {Q : Nat → Int → Int} {w : Nat → Nat → Int64} {rf : Nat → Nat → Option Nat} {N : Int → Int} {l : Nat} {p : Int} (hS : SCok S) (hr : RCok rf) (hl : isLife l) (wf : WFP N) (wl : WFL N) (cp : CP 67 Q N) (cl : CL l Q N) (hp : 0 ≤ p ∧ p < N 0) : fX3_isAwake S (mk Q w rf) l (I p) = some (b2 (awkA N p (N 102))) := by
  have h1 := wl.1
  have hw := C_isWoken (S := S) (w := w) (rf := rf) (p := p) cl
  obtain ⟨⟨c102, c104, c103⟩, clp, clg⟩ := cl
  simp (disch := first | assumption | omega) only [fX3_isAwake, fX3_isAwake_b28, fX3_isAwake_b23, I_lit, orb_I, I_add, I_sub, I_mul, I_neg, nm_eq, bd0_s, bd2_s, un2_eq, un3_eq, un4_eq, un5_eq, un6_eq, cs2_l, cs2_r, mk_1, mk_2, wI_mk, wL_mk, wR_mk, setR_same, setR_setR, rZ_0, rZ_1, rZ_b2, it_b2, it_nb2, it_b21, it_nb21, I_lt, I_le, I_eq, I_div, castI, if_true, if_false, Classical.not_not, gL0, hw, c102, C_isUp hS hr isPar67 wf cp hp ⟨h1.1, (by omega : N 102 < 2147483648)⟩]
  unfold awkA
  by_cases h2 : upA (N (8 + p)) (N (16 + p)) (N 102)
  · by_cases h3 : wokA N p
    · simp only [h2, h3, not_true, if_true, if_false, not_false_eq_true, true_or, b2_t]; rfl
    · simp only [h2, h3, not_true, if_true, if_false, not_false_eq_true, true_or, b2_t]; rfl
  · by_cases h3 : wokA N p
    · simp only [h2, h3, not_true, if_true, if_false, not_false_eq_true, true_and, or_true, b2_t]; rfl
    · simp only [h2, h3, not_true, if_true, if_false, not_false_eq_true, and_false, or_false, b2_f]; rfl
def fndA (N : Int → Int) (p v : Int) : Int := max 0 (min 99 (v + N (32 + p)) - N (40 + p))
theorem fndA_r {N : Int → Int} {p v : Int} (wf : WFP N) (hp : 0 ≤ p ∧ p < 8) (hv : 0 ≤ v ∧ v ≤ 99) : 0 ≤ fndA N p v ∧ fndA N p v ≤ 99 := by
  obtain ⟨wn0, wn1, wn2, wn3, wn4, wn5, wn6, wn7, wfr, wto, wff, wwa, wco, wwd, wgl, wgr, wnk, wda, wdr, wgo, wg1, wg2, wwx⟩ := wf
  have h1 := wwa p (by omega) (by omega)
  have h2 := wco p (by omega) (by omega)
  unfold fndA
  omega
theorem M_fonder {S : Nat → Nat × Nat} {R : Nat → Int → Int} {w : Nat → Nat → Int64} {rf : Nat → Nat → Option Nat} {p v : Int} (hS : SMok S) (hr : RMok rf) (wf : WFP (R 66)) (hp : 0 ≤ p ∧ p < 8) (hv : 0 ≤ v ∧ v ≤ 99) : fX13_fonder S (mk R w rf) 64 (I p) (I v) = some (I (fndA (R 66) p v)) := by
  obtain ⟨wn0, wn1, wn2, wn3, wn4, wn5, wn6, wn7, wfr, wto, wff, wwa, wco, wwd, wgl, wgr, wnk, wda, wdr, wgo, wg1, wg2, wwx⟩ := wf
  have h1 := wwa p (by omega) (by omega)
  have h2 := wco p (by omega) (by omega)
  unfold fndA
  simp (disch := first | assumption | omega) only [fX13_fonder, fX13_fonder_b36, I_lit, orb_I, I_add, I_sub, I_mul, I_neg, nm_eq, bd0_s, bd2_s, un2_eq, un3_eq, un4_eq, un5_eq, un6_eq, cs2_l, cs2_r, mk_1, mk_2, wI_mk, wL_mk, wR_mk, setR_same, setR_setR, rZ_0, rZ_1, rZ_b2, it_b2, it_nb2, it_b21, it_nb21, I_lt, I_le, I_eq, I_div, castI, if_true, if_false, Classical.not_not, gM14, ldM66, M_least]
  split <;> (congr 2; omega)
theorem C_fondNextDay {S : Nat → Nat × Nat} {Q : Nat → Int → Int} {w : Nat → Nat → Int64} {rf : Nat → Nat → Option Nat} {N : Int → Int} {x : Nat} {p v : Int} (hS : SCok S) (hr : RCok rf) (hx : isPar x) (wf : WFP N) (cp : CP x Q N) (hp : 0 ≤ p ∧ p < N 0) (hv : 0 ≤ v ∧ v ≤ 99) : fX4_fondNextDay S (mk Q w rf) x (I p) (I v) = some (I (fndA N p v)) := by
  obtain ⟨wn0, wn1, wn2, wn3, wn4, wn5, wn6, wn7, wfr, wto, wff, wwa, wco, wwd, wgl, wgr, wnk, wda, wdr, wgo, wg1, wg2, wwx⟩ := wf
  obtain ⟨⟨c0, c1, c2, c3, c4, c5, c6, c7⟩, cpp, cpg, cpd, cpk⟩ := cp
  have h1 := wwa p (by omega) (by omega)
  have h2 := wco p (by omega) (by omega)
  obtain ⟨e1, e2, e3, e4, e5⟩ := cpp p hp.1 hp.2
  unfold fndA
  simp (disch := first | assumption | omega) only [fX4_fondNextDay, I_lit, orb_I, I_add, I_sub, I_mul, I_neg, nm_eq, bd0_s, bd2_s, un2_eq, un3_eq, un4_eq, un5_eq, un6_eq, cs2_l, cs2_r, mk_1, mk_2, wI_mk, wL_mk, wR_mk, setR_same, setR_setR, rZ_0, rZ_1, rZ_b2, it_b2, it_nb2, it_b21, it_nb21, I_lt, I_le, I_eq, I_div, castI, if_true, if_false, Classical.not_not, gP0_4, gP0_5, ldP5, ldP6, e4, e5, mnI_I, mxI_I]
noncomputable def fdK (N : Int → Int) (p : Int) : Nat → Int
  | 0 => N (105 + p)
  | n + 1 => ii ((N 102 + n) % 24 = 23) (fndA N p (fdK N p n)) (fdK N p n)
theorem fdK_r {N : Int → Int} {p : Int} (wf : WFP N) (wl : WFL N) (hp : 0 ≤ p ∧ p < 8) (n : Nat) : 0 ≤ fdK N p n ∧ fdK N p n ≤ 99 := by
  induction n with
  | zero => exact wl.2.1 p hp.1 hp.2
  | succ n ih =>
    unfold fdK
    by_cases h : (N 102 + n) % 24 = 23
    · rw [ii_t h]; exact fndA_r wf hp ih
    · rw [ii_f h]; exact ih
noncomputable def fdA (N : Int → Int) (p h : Int) : Int := fdK N p (h - N 102).toNat
theorem M_fondAt {S : Nat → Nat × Nat} {R : Nat → Int → Int} {w : Nat → Nat → Int64} {rf : Nat → Nat → Option Nat} {p h : Int} (hS : SMok S) (hr : RMok rf) (wf : WFP (R 66)) (wl : WFL (R 66)) (hp : 0 ≤ p ∧ p < 8) (hh : R 66 102 ≤ h ∧ h ≤ 600) : fX13_fondAt S (mk R w rf) 64 (I p) (I h) = some (I (fdA (R 66) p h)) := by
  have hfd := fdK_r wf wl hp
  have h1 := wl.1
  have h2 := loop_seq (f := fX13_fondAt_L19 S (mk R w rf) 64 (I p) (I h)) (m := 1000) (fun k => (I (fdK (R 66) p k), I (R 66 102 + k))) (h - R 66 102).toNat (r := I (fdA (R 66) p h)) (by omega) (by
    intro k hk
    have h3 := hfd k
    have h4 : ¬ (h ≤ R 66 102 + k) := by omega
    simp (disch := first | assumption | omega) only [fX13_fondAt_L19, fX13_fondAt_b42, I_lit, orb_I, I_add, I_sub, I_mul, I_neg, nm_eq, bd0_s, bd2_s, un2_eq, un3_eq, un4_eq, un5_eq, un6_eq, cs2_l, cs2_r, mk_1, mk_2, wI_mk, wL_mk, wR_mk, setR_same, setR_setR, rZ_0, rZ_1, rZ_b2, it_b2, it_nb2, it_b21, it_nb21, I_lt, I_le, I_eq, I_div, castI, if_true, if_false, Classical.not_not, h4, M_fonder hS hr wf hp h3]
    have h5 : (R 66 102 + k - (R 66 102 + k) / 24 * 24) = (R 66 102 + k) % 24 := by omega
    rw [h5]
    show _ = some (Sum.inl (I (ii _ _ _), _))
    by_cases h6 : (R 66 102 + (k : Int)) % 24 = 23
    · simp only [h6, not_true, if_false, ii_t]
      congr 4
      omega
    · simp only [h6, not_false_eq_true, if_true, ii_f]
      congr 4
      omega) (by
    have h4 : (h ≤ R 66 102 + ((h - R 66 102).toNat : Int)) := by omega
    simp (disch := first | assumption | omega) only [fX13_fondAt_L19, fX13_fondAt_b42, I_lit, orb_I, I_add, I_sub, I_mul, I_neg, nm_eq, bd0_s, bd2_s, un2_eq, un3_eq, un4_eq, un5_eq, un6_eq, cs2_l, cs2_r, mk_1, mk_2, wI_mk, wL_mk, wR_mk, setR_same, setR_setR, rZ_0, rZ_1, rZ_b2, it_b2, it_nb2, it_b21, it_nb21, I_lt, I_le, I_eq, I_div, castI, if_true, if_false, Classical.not_not, h4]
    rfl)
  have h3 : (I (fdK (R 66) p 0), I (R 66 102 + ((0 : Nat) : Int))) = (I (R 66 (105 + p)), I (R 66 102)) := by
    simp only [fdK, Int.natCast_zero, Int.add_zero, castI]
  simp only [h3] at h2
  simp (disch := first | assumption | omega) only [fX13_fondAt, I_lit, orb_I, I_add, I_sub, I_mul, I_neg, nm_eq, bd0_s, bd2_s, un2_eq, un3_eq, un4_eq, un5_eq, un6_eq, cs2_l, cs2_r, mk_1, mk_2, wI_mk, wL_mk, wR_mk, setR_same, setR_setR, rZ_0, rZ_1, rZ_b2, it_b2, it_nb2, it_b21, it_nb21, I_lt, I_le, I_eq, I_div, castI, if_true, if_false, Classical.not_not, gM14, ldM66, h2]
def wilA (N : Int → Int) (p h : Int) : Prop := awkA N p h ∧ N 4 ≤ fdA N p h
theorem M_isWilling {S : Nat → Nat × Nat} {R : Nat → Int → Int} {w : Nat → Nat → Int64} {rf : Nat → Nat → Option Nat} {p h : Int} (hS : SMok S) (hr : RMok rf) (wf : WFP (R 66)) (wl : WFL (R 66)) (hp : 0 ≤ p ∧ p < 8) (hh : R 66 102 ≤ h ∧ h ≤ 600) : fX13_isWilling S (mk R w rf) 64 (I p) (I h) = some (b2 (wilA (R 66) p h)) := by
  have h1 := wl.1
  have h2 := fdK_r wf wl hp (h - R 66 102).toNat
  have h4 : 0 ≤ fdA (R 66) p h ∧ fdA (R 66) p h ≤ 99 := h2
  have h3 := wf.2.2.2.2.1
  simp (disch := first | assumption | omega) only [fX13_isWilling, fX13_isWilling_b28, fX13_isWilling_b29, I_lit, orb_I, I_add, I_sub, I_mul, I_neg, nm_eq, bd0_s, bd2_s, un2_eq, un3_eq, un4_eq, un5_eq, un6_eq, cs2_l, cs2_r, mk_1, mk_2, wI_mk, wL_mk, wR_mk, setR_same, setR_setR, rZ_0, rZ_1, rZ_b2, it_b2, it_nb2, it_b21, it_nb21, I_lt, I_le, I_eq, I_div, castI, if_true, if_false, Classical.not_not, M_isAwake hS hr wf wl hp (⟨by omega, hh.2⟩ : 0 ≤ h ∧ h ≤ 600), M_fondAt hS hr wf wl hp hh, gM14, ldM66]
  unfold wilA
  by_cases h5 : awkA (R 66) p h
  · by_cases h6 : fdA (R 66) p h < R 66 4
    · rw [b2_f (by omega)]
      simp only [h5, h6, not_true, if_true, if_false]; rfl
    · rw [b2_t ⟨h5, by omega⟩]
      simp only [h5, h6, not_true, if_true, if_false]; rfl
  · rw [b2_f (fun h => h5 h.1)]
    simp only [h5, not_false_eq_true, if_true]; rfl
theorem fdA_now {N : Int → Int} {p : Int} : fdA N p (N 102) = N (105 + p) := by
  unfold fdA
  rw [Int.sub_self]
  rfl
theorem C_isWilling {S : Nat → Nat × Nat} {Q : Nat → Int → Int} {w : Nat → Nat → Int64} {rf : Nat → Nat → Option Nat} {N : Int → Int} {l : Nat} {p : Int} (hS : SCok S) (hr : RCok rf) (hl : isLife l) (wf : WFP N) (wl : WFL N) (cp : CP 67 Q N) (cl : CL l Q N) (hp : 0 ≤ p ∧ p < N 0) : fX3_isWilling S (mk Q w rf) l (I p) = some (b2 (wilA N p (N 102))) := by
  have h1 := C_isAwake (w := w) hS hr hl wf wl cp cl hp
  obtain ⟨⟨c102, c104, c103⟩, clp, clg⟩ := cl
  have ip67 := isPar67; obtain ⟨⟨c0, c1, c2, c3, c4, c5, c6, c7⟩, cpp, cpg, cpd, cpk⟩ := CPl_of cp
  have h0 := wf.1
  have h2 := wl.2.1 p hp.1 (by omega)
  have h3 := wf.2.2.2.2.1
  obtain ⟨e1, e2⟩ := clp p hp.1 hp.2
  simp (disch := first | assumption | omega) only [fX3_isWilling, fX3_isWilling_b28, fX3_isWilling_b29, I_lit, orb_I, I_add, I_sub, I_mul, I_neg, nm_eq, bd0_s, bd2_s, un2_eq, un3_eq, un4_eq, un5_eq, un6_eq, cs2_l, cs2_r, mk_1, mk_2, wI_mk, wL_mk, wR_mk, setR_same, setR_setR, rZ_0, rZ_1, rZ_b2, it_b2, it_nb2, it_b21, it_nb21, I_lt, I_le, I_eq, I_div, castI, if_true, if_false, Classical.not_not, gL4, gL0, ldL1, e1, c4, h1]
  unfold wilA
  rw [fdA_now]
  by_cases h5 : awkA N p (N 102)
  · by_cases h6 : N (105 + p) < N 4
    · rw [b2_f (by omega)]
      simp only [h5, h6, not_true, if_true, if_false]; rfl
    · rw [b2_t ⟨h5, by omega⟩]
      simp only [h5, h6, not_true, if_true, if_false]; rfl
  · rw [b2_f (fun h => h5 h.1)]
    by_cases h6 : N (105 + p) < N 4
    · simp only [h5, h6, not_false_eq_true, if_true]; rfl
    · simp only [h5, h6, not_false_eq_true, if_true, if_false]; rfl
