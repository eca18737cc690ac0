def whF (c : Int → Bool) : Nat → Int → Int
  | 0, a => a
  | f + 1, a => if c a = true then whF c f (a + 1) else a
theorem wh_r {c : Int → Bool} {n : Int} (hc : ∀ a, c a = true → a < n) (f : Nat) : ∀ a, (n - a).toNat ≤ f → a ≤ whF c f a ∧ (a ≤ n → whF c f a ≤ n) ∧ c (whF c f a) = false ∧ ∀ j, a ≤ j → j < whF c f a → c j = true := by
  induction f with
  | zero =>
    intro a ha
    refine ⟨by show a ≤ a; omega, fun h => h, ?_, fun j h1 h2 => by change j < a at h2; omega⟩
    show c a = false
    by_cases h : c a = true
    · have := hc a h; omega
    · simpa using h
  | succ f ih =>
    intro a ha
    unfold whF
    by_cases h : c a = true
    · rw [if_pos h]
      have hn := hc a h
      obtain ⟨i1, i2, i3, i4⟩ := ih (a + 1) (by omega)
      refine ⟨by omega, fun _ => i2 (by omega), i3, fun j h1 h2 => ?_⟩
      by_cases e : j = a
      · rw [e]; exact h
      · exact i4 j (by omega) h2
    · rw [if_neg h]
      exact ⟨by omega, fun h => h, by simpa using h, fun j h1 h2 => by omega⟩
theorem loop_wh {α β : Type} {f : α → Option (α ⊕ β)} (T : Int → α) (U : Int → β) (c : Int → Bool) {n : Int} (hc : ∀ a, c a = true → a < n) (F : Nat) : ∀ (a0 : Int) (m : Nat), a0 ≤ n → (n - a0).toNat ≤ F → F < m → (∀ a, a0 ≤ a → c a = true → f (T a) = some (.inl (T (a + 1)))) → (∀ a, a0 ≤ a → a ≤ n → c a = false → f (T a) = some (.inr (U a))) → loopN f m (T a0) = some (U (whF c F a0)) := by
  induction F with
  | zero =>
    intro a0 m h0 h1 h2 h3 h4
    cases m with
    | zero => omega
    | succ m =>
      have h5 : c a0 = false := by
        by_cases h : c a0 = true
        · have := hc a0 h; omega
        · simpa using h
      simp only [loopN, h4 a0 (by omega) h0 h5]
      rfl
  | succ F ih =>
    intro a0 m h0 h1 h2 h3 h4
    cases m with
    | zero => omega
    | succ m =>
      by_cases h : c a0 = true
      · have hlt := hc a0 h
        simp only [loopN, h3 a0 (by omega) h]
        rw [ih (a0 + 1) m (by omega) (by omega) (by omega) (fun a ha => h3 a (by omega)) (fun a ha => h4 a (by omega))]
        unfold whF
        rw [if_pos h]
        cases F <;> rfl
      · have h5 : c a0 = false := by simpa using h
        simp only [loopN, h4 a0 (by omega) h0 h5]
        unfold whF
        rw [if_neg h]
def isSp (b : Int → Int) (n a : Int) : Bool := decide (a < n) && (decide (b a = 32) || decide (b a = 10))
theorem isSp_lt {b : Int → Int} {n : Int} : ∀ a, isSp b n a = true → a < n := by
  intro a h
  unfold isSp at h
  simp only [Bool.and_eq_true, decide_eq_true_eq] at h
  exact h.1
def sk (b : Int → Int) (n a : Int) : Int := whF (isSp b n) (n - a).toNat a
theorem sk_r {b : Int → Int} {n a : Int} (ha : a ≤ n) : (a ≤ sk b n a ∧ sk b n a ≤ n) ∧ (sk b n a < n → b (sk b n a) ≠ 32 ∧ b (sk b n a) ≠ 10) := by
  obtain ⟨h1, h2, h3, h4⟩ := wh_r (c := isSp b n) isSp_lt (n - a).toNat a (Nat.le_refl _)
  refine ⟨⟨h1, h2 ha⟩, fun h => ?_⟩
  have h3' : isSp b n (sk b n a) = false := h3
  unfold isSp at h3'
  simp only [Bool.and_eq_false_iff, Bool.or_eq_false_iff, decide_eq_false_iff_not] at h3'
  rcases h3' with h5 | h5
  · exact absurd h h5
  · exact h5
theorem sb_eq {b c : Int} (hb : 0 ≤ b ∧ b ≤ 255) (hc : 0 ≤ c ∧ c < 128) : (sb b = c ↔ b = c) := by
  unfold sb
  split <;> omega
theorem sb_rng {b : Int} (hb : 0 ≤ b ∧ b ≤ 255) : -128 ≤ sb b ∧ sb b ≤ 127 ∧ (∀ c, 0 ≤ c → c < 128 → (c ≤ sb b ↔ (c ≤ b ∧ b < 128))) := by
  unfold sb
  split
  · exact ⟨by omega, by omega, fun c h1 h2 => by omega⟩
  · exact ⟨by omega, by omega, fun c h1 h2 => by omega⟩
def tpR (q66 : Int → Int) (n : Int) (b : Int → Int) : Prop := (0 ≤ n ∧ n ≤ 940) ∧ ∀ i, 0 ≤ i → i < n → (0 ≤ b i ∧ b i ≤ 255) ∧ q66 i = sb (b i)
theorem C_skip {S : Nat → Nat × Nat} {Q : Nat → Int → Int} {w : Nat → Nat → Int64} {rf : Nat → Nat → Option Nat} {b : Int → Int} {n a : Int} (hS : SCok S) (hr : RCok rf) (tp : tpR (Q 66) n b) (hn : Q 65 1 = n) (ha : Q 65 3 = a) (h0 : 0 ≤ a ∧ a ≤ n) : loopN (fX8_next_L0 S 65) 1000 (mk Q w rf) = some (mk (setR Q 65 (updf (Q 65) 3 (sk b n a))) w rf) := by
  obtain ⟨tn, tb⟩ := tp
  have e0 : mk Q w rf = mk (setR Q 65 (updf (Q 65) 3 a)) w rf := by
    rw [← ha, updf_id, setR_id]
  rw [e0]
  refine loop_wh (fun x => mk (setR Q 65 (updf (Q 65) 3 x)) w rf) (fun x => mk (setR Q 65 (updf (Q 65) 3 x)) w rf) (isSp b n) isSp_lt (n - a).toNat a 1000 h0.2 (Nat.le_refl _) (by omega) ?_ ?_
  · intro x hx hc
    have hlt := isSp_lt x hc
    obtain ⟨t1, t2⟩ := tb x (by omega) hlt
    have h1 : ¬ (n ≤ x) := by omega
    have r := sb_rng t1
    unfold isSp at hc
    simp only [Bool.and_eq_true, Bool.or_eq_true, decide_eq_true_eq] at hc
    by_cases q : sb (b x) = 32
    · simp (disch := first | assumption | omega) only [fX8_next_L0, fX8_next_b39, I_lit, orb_I, I_add, I_sub, I_mul, I_neg, nm_eq, bd0_s, bd2_s, un2_eq, un3_eq, un4_eq, un5_eq, un6_eq, cs2_l, cs2_r, mk_1, mk_2, wI_mk, wL_mk, wR_mk, setR_same, setR_setR, rZ_0, rZ_1, rZ_b2, it_b2, it_nb2, it_b21, it_nb21, I_lt, I_le, I_eq, I_div, castI, if_true, if_false, Classical.not_not, updf_ne, updf_same, hn, h1, gC65_0, ldC66, setR_ne, t2, q, updf_updf]
    · have q2 : sb (b x) = 10 := by
        rcases hc.2 with h | h
        · exact absurd ((sb_eq t1 (by omega)).2 h) q
        · exact (sb_eq t1 (by omega)).2 h
      simp (disch := first | assumption | omega) only [fX8_next_L0, fX8_next_b39, I_lit, orb_I, I_add, I_sub, I_mul, I_neg, nm_eq, bd0_s, bd2_s, un2_eq, un3_eq, un4_eq, un5_eq, un6_eq, cs2_l, cs2_r, mk_1, mk_2, wI_mk, wL_mk, wR_mk, setR_same, setR_setR, rZ_0, rZ_1, rZ_b2, it_b2, it_nb2, it_b21, it_nb21, I_lt, I_le, I_eq, I_div, castI, if_true, if_false, Classical.not_not, updf_ne, updf_same, hn, h1, gC65_0, ldC66, setR_ne, t2, q, q2, not_true, updf_updf]
      rfl
  · intro x hx hxn hc
    by_cases h1 : n ≤ x
    · simp (disch := first | assumption | omega) only [fX8_next_L0, I_lit, orb_I, I_add, I_sub, I_mul, I_neg, nm_eq, bd0_s, bd2_s, un2_eq, un3_eq, un4_eq, un5_eq, un6_eq, cs2_l, cs2_r, mk_1, mk_2, wI_mk, wL_mk, wR_mk, setR_same, setR_setR, rZ_0, rZ_1, rZ_b2, it_b2, it_nb2, it_b21, it_nb21, I_lt, I_le, I_eq, I_div, castI, if_true, if_false, Classical.not_not, updf_ne, updf_same, hn, h1]
    · obtain ⟨t1, t2⟩ := tb x (by omega) (by omega)
      have r := sb_rng t1
      unfold isSp at hc
      simp only [Bool.and_eq_false_iff, Bool.or_eq_false_iff, decide_eq_false_iff_not] at hc
      have q : ¬ (sb (b x) = 32) := fun h => by
        have := (sb_eq t1 (by omega)).1 h
        rcases hc with h2 | h2
        · omega
        · exact h2.1 this
      have q2 : ¬ (sb (b x) = 10) := fun h => by
        have := (sb_eq t1 (by omega)).1 h
        rcases hc with h2 | h2
        · omega
        · exact h2.2 this
      simp (disch := first | assumption | omega) only [fX8_next_L0, I_lit, orb_I, I_add, I_sub, I_mul, I_neg, nm_eq, bd0_s, bd2_s, un2_eq, un3_eq, un4_eq, un5_eq, un6_eq, cs2_l, cs2_r, mk_1, mk_2, wI_mk, wL_mk, wR_mk, setR_same, setR_setR, rZ_0, rZ_1, rZ_b2, it_b2, it_nb2, it_b21, it_nb21, I_lt, I_le, I_eq, I_div, castI, if_true, if_false, Classical.not_not, updf_ne, updf_same, hn, h1, gC65_0, ldC66, setR_ne, t2, q, q2, not_false_eq_true]
theorem M_skip {S : Nat → Nat × Nat} {R : Nat → Int → Int} {w : Nat → Nat → Int64} {rf : Nat → Nat → Option Nat} {n a : Int} (hS : SMok S) (hr : RMok rf) (hb : 0 ≤ n ∧ n ≤ 940) (tb : ∀ i, 0 ≤ i → i < n → 0 ≤ R 65 i ∧ R 65 i ≤ 255) (hn : R 64 3 = n) (ha : R 64 5 = a) (h0 : 0 ≤ a ∧ a ≤ n) : loopN (fX13_go_L0 S 64) 1000 (mk R w rf) = some (mk (setR R 64 (updf (R 64) 5 (sk (R 65) n a))) w rf) := by
  have e0 : mk R w rf = mk (setR R 64 (updf (R 64) 5 a)) w rf := by
    rw [← ha, updf_id, setR_id]
  rw [e0]
  refine loop_wh (fun x => mk (setR R 64 (updf (R 64) 5 x)) w rf) (fun x => mk (setR R 64 (updf (R 64) 5 x)) w rf) (isSp (R 65) n) isSp_lt (n - a).toNat a 1000 h0.2 (Nat.le_refl _) (by omega) ?_ ?_
  · intro x hx hc
    have hlt := isSp_lt x hc
    have t1 := tb x (by omega) hlt
    have h1 : ¬ (n ≤ x) := by omega
    unfold isSp at hc
    simp only [Bool.and_eq_true, Bool.or_eq_true, decide_eq_true_eq] at hc
    by_cases q : R 65 x = 32
    · simp (disch := first | assumption | omega) only [fX13_go_L0, fX13_go_b39, I_lit, orb_I, I_add, I_sub, I_mul, I_neg, nm_eq, bd0_s, bd2_s, un2_eq, un3_eq, un4_eq, un5_eq, un6_eq, cs2_l, cs2_r, mk_1, mk_2, wI_mk, wL_mk, wR_mk, setR_same, setR_setR, rZ_0, rZ_1, rZ_b2, it_b2, it_nb2, it_b21, it_nb21, I_lt, I_le, I_eq, I_div, castI, if_true, if_false, Classical.not_not, updf_ne, updf_same, hn, h1, gM1, ldM65, setR_ne, q, updf_updf]
    · have q2 : R 65 x = 10 := by
        rcases hc.2 with h | h
        · exact absurd h q
        · exact h
      simp (disch := first | assumption | omega) only [fX13_go_L0, fX13_go_b39, I_lit, orb_I, I_add, I_sub, I_mul, I_neg, nm_eq, bd0_s, bd2_s, un2_eq, un3_eq, un4_eq, un5_eq, un6_eq, cs2_l, cs2_r, mk_1, mk_2, wI_mk, wL_mk, wR_mk, setR_same, setR_setR, rZ_0, rZ_1, rZ_b2, it_b2, it_nb2, it_b21, it_nb21, I_lt, I_le, I_eq, I_div, castI, if_true, if_false, Classical.not_not, updf_ne, updf_same, hn, h1, gM1, ldM65, setR_ne, q, q2, not_true, updf_updf]
      rfl
  · intro x hx hxn hc
    by_cases h1 : n ≤ x
    · simp (disch := first | assumption | omega) only [fX13_go_L0, I_lit, orb_I, I_add, I_sub, I_mul, I_neg, nm_eq, bd0_s, bd2_s, un2_eq, un3_eq, un4_eq, un5_eq, un6_eq, cs2_l, cs2_r, mk_1, mk_2, wI_mk, wL_mk, wR_mk, setR_same, setR_setR, rZ_0, rZ_1, rZ_b2, it_b2, it_nb2, it_b21, it_nb21, I_lt, I_le, I_eq, I_div, castI, if_true, if_false, Classical.not_not, updf_ne, updf_same, hn, h1]
    · have t1 := tb x (by omega) (by omega)
      unfold isSp at hc
      simp only [Bool.and_eq_false_iff, Bool.or_eq_false_iff, decide_eq_false_iff_not] at hc
      have q : ¬ (R 65 x = 32) := fun h => by
        rcases hc with h2 | h2
        · omega
        · exact h2.1 h
      have q2 : ¬ (R 65 x = 10) := fun h => by
        rcases hc with h2 | h2
        · omega
        · exact h2.2 h
      simp (disch := first | assumption | omega) only [fX13_go_L0, I_lit, orb_I, I_add, I_sub, I_mul, I_neg, nm_eq, bd0_s, bd2_s, un2_eq, un3_eq, un4_eq, un5_eq, un6_eq, cs2_l, cs2_r, mk_1, mk_2, wI_mk, wL_mk, wR_mk, setR_same, setR_setR, rZ_0, rZ_1, rZ_b2, it_b2, it_nb2, it_b21, it_nb21, I_lt, I_le, I_eq, I_div, castI, if_true, if_false, Classical.not_not, updf_ne, updf_same, hn, h1, gM1, ldM65, setR_ne, q, q2, not_false_eq_true]
def isL (c : Int) : Prop := 97 ≤ c ∧ c ≤ 122
def isD (c : Int) : Prop := 48 ≤ c ∧ c ≤ 57
def isAn (b : Int → Int) (n a : Int) : Bool := decide (a < n) && (decide (97 ≤ b a ∧ b a ≤ 122) || decide (48 ≤ b a ∧ b a ≤ 57))
theorem isAn_lt {b : Int → Int} {n : Int} : ∀ a, isAn b n a = true → a < n := by
  intro a h
  unfold isAn at h
  simp only [Bool.and_eq_true, decide_eq_true_eq] at h
  exact h.1
def rn (b : Int → Int) (n a : Int) : Int := whF (isAn b n) (n - a).toNat a
theorem rn_r {b : Int → Int} {n a : Int} (ha : a ≤ n) : (a ≤ rn b n a ∧ rn b n a ≤ n) ∧ (rn b n a < n → ¬ isL (b (rn b n a)) ∧ ¬ isD (b (rn b n a))) ∧ ∀ j, a ≤ j → j < rn b n a → isL (b j) ∨ isD (b j) := by
  obtain ⟨h1, h2, h3, h4⟩ := wh_r (c := isAn b n) isAn_lt (n - a).toNat a (Nat.le_refl _)
  refine ⟨⟨h1, h2 ha⟩, fun h => ?_, fun j h5 h6 => ?_⟩
  · have h3' : isAn b n (rn b n a) = false := h3
    unfold isAn at h3'
    simp only [Bool.and_eq_false_iff, Bool.or_eq_false_iff, decide_eq_false_iff_not] at h3'
    rcases h3' with h5 | h5
    · exact absurd h h5
    · exact h5
  · have h7 := h4 j h5 h6
    unfold isAn at h7
    simp only [Bool.and_eq_true, Bool.or_eq_true, decide_eq_true_eq] at h7
    exact h7.2
noncomputable def lcK (b : Int → Int) (p : Int) : Nat → Int
  | 0 => 0
  | k + 1 => ii (isL (b (p + k))) (lcK b p k + 1) (lcK b p k)
noncomputable def coK (b : Int → Int) (p : Int) : Nat → Int64
  | 0 => 0
  | k + 1 => ii (isL (b (p + k))) ((coK b p k <<< ((I 5).toInt64 &&& 63)) ||| (I (b (p + k) - 97 + 1)).toInt64) (coK b p k)
noncomputable def ncK (b : Int → Int) (p : Int) : Nat → Int
  | 0 => 0
  | k + 1 => ii (isL (b (p + k))) (ncK b p k) (ncK b p k * 10 + b (p + k) - 48)
theorem lc_r {b : Int → Int} {p : Int} (k : Nat) : 0 ≤ lcK b p k ∧ lcK b p k ≤ k := by
  induction k with
  | zero => simp [lcK]
  | succ k ih =>
    unfold lcK ii
    split <;> omega
noncomputable def runS (Q : Nat → Int → Int) (w : Nat → Nat → Int64) (rf : Nat → Nat → Option Nat) (b : Int → Int) (p : Int) (k : Nat) : mm := mk (setR Q 65 (updf (updf (Q 65) 6 (ncK b p k)) 3 (p + k))) (up2 w 65 7 (coK b p k)) rf
theorem up2_up2 {α : Type} {f : Nat → Nat → α} {a j : Nat} {x y : α} : up2 (up2 f a j x) a j y = up2 f a j y := by
  funext c i
  simp only [up2]
  split
  · split <;> rfl
  · rfl
theorem up2_same {α : Type} {f : Nat → Nat → α} {a j : Nat} {x : α} : up2 f a j x a j = x := by simp [up2]
theorem C_runStep {S : Nat → Nat × Nat} {Q : Nat → Int → Int} {w : Nat → Nat → Int64} {rf : Nat → Nat → Option Nat} {b : Int → Int} {n p : Int} {k : Nat} (hS : SCok S) (hr : RCok rf) (tp : tpR (Q 66) n b) (hn : Q 65 1 = n) (hp : 0 ≤ p) (hk : p + k < n) (han : isL (b (p + k)) ∨ isD (b (p + k))) : fX8_readRun_L16 S 65 (I (lcK b p k), I (k - lcK b p k), I 1, runS Q w rf b p k) = some (.inl (I (lcK b p (k + 1)), I (((k + 1 : Nat) : Int) - lcK b p (k + 1)), I 1, runS Q w rf b p (k + 1))) := by
  obtain ⟨tn, tb⟩ := tp
  obtain ⟨t1, t2⟩ := tb (p + k) (by omega) hk
  have r := sb_rng t1
  have h1 : ¬ (n ≤ p + (k : Int)) := by omega
  have ek : p + (k : Int) + 1 = p + ((k + 1 : Nat) : Int) := by omega
  have es : sb (b (p + k)) = b (p + k) := by
    unfold isL isD at han
    unfold sb
    rw [if_pos (by omega)]
  rw [es] at t2
  have lr := lc_r (b := b) (p := p) k
  by_cases q : isL (b (p + k))
  · have e1 : lcK b p (k + 1) = lcK b p k + 1 := by show ii _ _ _ = _; rw [ii_t q]
    have e2 : coK b p (k + 1) = (coK b p k <<< ((I 5).toInt64 &&& 63)) ||| (I (b (p + k) - 97 + 1)).toInt64 := by show ii _ _ _ = _; rw [ii_t q]
    have e3 : ncK b p (k + 1) = ncK b p k := by show ii _ _ _ = _; rw [ii_t q]
    have q' := q
    unfold isL at q'
    have g1 : ¬ (b (p + k) < 97) := by omega
    have g2 : ¬ (122 < b (p + k)) := by omega
    have g3 : ¬ ((1 : Int) = 0) := by omega
    rw [e1]
    unfold runS
    rw [e2, e3]
    simp (disch := first | assumption | omega) only [fX8_readRun_L16, fX8_readRun_b120, fX8_readRun_b138, I_lit, orb_I, I_add, I_sub, I_mul, I_neg, nm_eq, bd0_s, bd2_s, un2_eq, un3_eq, un4_eq, un5_eq, un6_eq, cs2_l, cs2_r, mk_1, mk_2, wI_mk, wL_mk, wR_mk, setR_same, setR_setR, rZ_0, rZ_1, rZ_b2, it_b2, it_nb2, it_b21, it_nb21, I_lt, I_le, I_eq, I_div, castI, if_true, if_false, Classical.not_not, updf_ne, updf_same, hn, h1, g3, gC65_0, ldC66, setR_ne, t2, g1, g2, up2_same, up2_up2, updf_updf, ek]
    congr 4
    congr 1
    omega
  · have q2 : isD (b (p + k)) := by
      rcases han with h | h
      · exact absurd h q
      · exact h
    have e1 : lcK b p (k + 1) = lcK b p k := by show ii _ _ _ = _; rw [ii_f q]
    have e2 : coK b p (k + 1) = coK b p k := by show ii _ _ _ = _; rw [ii_f q]
    have e3 : ncK b p (k + 1) = ncK b p k * 10 + b (p + k) - 48 := by show ii _ _ _ = _; rw [ii_f q]
    unfold isD at q2
    have g1 : b (p + k) < 97 := by omega
    have g2 : ¬ (b (p + k) < 48) := by omega
    have g4 : ¬ (57 < b (p + k)) := by omega
    have g3 : ¬ ((1 : Int) = 0) := by omega
    rw [e1]
    unfold runS
    rw [e2, e3]
    have ec : updf (updf (updf (updf (Q 65) 6 (ncK b p k)) 3 (p + k)) 6 (ncK b p k * 10 + b (p + k) - 48)) 3 (p + ((k + 1 : Nat) : Int)) = updf (updf (Q 65) 6 (ncK b p k * 10 + b (p + k) - 48)) 3 (p + ((k + 1 : Nat) : Int)) := by
      rw [updf_comm (z := 3) (z' := 6) (by omega), updf_updf, updf_updf]
    simp (disch := first | assumption | omega) only [fX8_readRun_L16, fX8_readRun_b81, fX8_readRun_b120, fX8_readRun_b138, I_lit, orb_I, I_add, I_sub, I_mul, I_neg, nm_eq, bd0_s, bd2_s, un2_eq, un3_eq, un4_eq, un5_eq, un6_eq, cs2_l, cs2_r, mk_1, mk_2, wI_mk, wL_mk, wR_mk, setR_same, setR_setR, rZ_0, rZ_1, rZ_b2, it_b2, it_nb2, it_b21, it_nb21, I_lt, I_le, I_eq, I_div, castI, if_true, if_false, Classical.not_not, updf_ne, updf_same, hn, h1, g3, gC65_0, ldC66, setR_ne, t2, g1, g2, g4, updf_updf, ek, ec]
    congr 4
    congr 1
    omega
