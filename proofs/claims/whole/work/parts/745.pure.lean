theorem updf_noop {N : Int → Int} {z x : Int} (h : N z = x) : updf N z x = N := by
  rw [← h]; exact updf_id
noncomputable def kdC (lc L : Int) : Int := ii (L - lc = 0 ∧ 0 < lc ∧ lc ≤ 7) 2 (ii (lc = 0 ∧ 0 < L - lc ∧ L - lc ≤ 3) 3 1)
theorem C_readRun {S : Nat → Nat × Nat} {Q : Nat → Int → Int} {w : Nat → Nat → Int64} {rf : Nat → Nat → Option Nat} {b : Int → Int} {n p : Int} {L : Nat} (hS : SCok S) (hr : RCok rf) (tp : tpR (Q 66) n b) (hn : Q 65 1 = n) (ha : Q 65 3 = p) (hp : 0 ≤ p ∧ p ≤ n) (hL : p + L = rn b n p) : fX8_readRun S (mk Q w rf) 65 = some (mk (setR Q 65 (updf (updf (updf (Q 65) 6 (ncK b p L)) 3 (p + L)) 4 (kdC (lcK b p L) L))) (up2 w 65 7 (coK b p L)) rf) := by
  obtain ⟨⟨r1, r2⟩, r3, r4⟩ := rn_r (b := b) (n := n) (a := p) hp.2
  have tp' := tp
  obtain ⟨tn, tb⟩ := tp
  have lr := lc_r (b := b) (p := p) L
  have e0 : mk (setR Q 65 (updf (Q 65) 6 0)) (up2 w 65 7 0) rf = runS Q w rf b p 0 := by
    unfold runS
    have : updf (updf (Q 65) 6 0) 3 (p + ((0 : Nat) : Int)) = updf (Q 65) 6 0 := updf_noop (by rw [updf_ne (by omega), ha]; omega)
    show _ = mk (setR Q 65 (updf (updf (Q 65) 6 0) 3 (p + ((0 : Nat) : Int)))) (up2 w 65 7 0) rf
    rw [this]
  have hz : (I (lcK b p 0), I (((0 : Nat) : Int) - lcK b p 0), I 1, runS Q w rf b p 0) = (I 0, I 0, I 1, runS Q w rf b p 0) := rfl
  have l1 : loopN (fX8_readRun_L16 S 65) 1000 (I 0, I 0, I 1, runS Q w rf b p 0) = some (I (lcK b p L), I (L - lcK b p L), runS Q w rf b p L) := by
    by_cases hq : rn b n p = n
    · have := loop_seq (f := fX8_readRun_L16 S 65) (m := 1000) (fun k => (I (lcK b p k), I (k - lcK b p k), I 1, runS Q w rf b p k)) L (r := (I (lcK b p L), I (L - lcK b p L), runS Q w rf b p L)) (by omega) (fun k hk => C_runStep hS hr tp' hn hp.1 (by omega) (r4 (p + k) (by omega) (by omega))) (by
        have h1 : n ≤ p + (L : Int) := by omega
        have g3 : ¬ ((1 : Int) = 0) := by omega
        unfold runS
        simp (disch := first | assumption | omega) only [fX8_readRun_L16, I_lit, orb_I, I_add, I_sub, I_mul, I_neg, nm_eq, bd0_s, bd2_s, un2_eq, un3_eq, un4_eq, un5_eq, un6_eq, cs2_l, cs2_r, mk_1, mk_2, wI_mk, wL_mk, wR_mk, setR_same, setR_setR, rZ_0, rZ_1, rZ_b2, it_b2, it_nb2, it_b21, it_nb21, I_lt, I_le, I_eq, I_div, castI, if_true, if_false, Classical.not_not, updf_ne, updf_same, hn, h1, g3])
      exact this
    · have := loop_seq (f := fX8_readRun_L16 S 65) (m := 1000) (fun k => if k ≤ L then (I (lcK b p k), I (k - lcK b p k), I 1, runS Q w rf b p k) else (I (lcK b p L), I (L - lcK b p L), I 0, runS Q w rf b p L)) (L + 1) (r := (I (lcK b p L), I (L - lcK b p L), runS Q w rf b p L)) (by omega) (by
        intro k hk
        by_cases e : k = L
        · subst e
          simp only [Nat.le_refl, if_true]
          rw [if_neg (by omega)]
          obtain ⟨nl, nd⟩ := r3 (by omega)
          rw [← hL] at nl nd
          obtain ⟨t1, t2⟩ := tb (p + k) (by omega) (by omega)
          have rg := sb_rng t1
          have h1 : ¬ (n ≤ p + (k : Int)) := by omega
          have g3 : ¬ ((1 : Int) = 0) := by omega
          have ex : ∀ x, updf (updf (updf (Q 65) 6 (ncK b p k)) 3 (p + k)) 3 (p + k) = x → updf (updf (Q 65) 6 (ncK b p k)) 3 (p + k) = x := fun x h => by rw [updf_updf] at h; exact h
          have na : sb (b (p + k)) < 97 ∨ 122 < sb (b (p + k)) := by
            unfold isL at nl
            have a1 := rg.2.2 97 (by omega) (by omega)
            have a2 := rg.2.2 123 (by omega) (by omega)
            omega
          have nb : sb (b (p + k)) < 48 ∨ 57 < sb (b (p + k)) := by
            unfold isD at nd
            have a1 := rg.2.2 48 (by omega) (by omega)
            have a2 := rg.2.2 58 (by omega) (by omega)
            omega
          unfold runS
          by_cases c1 : sb (b (p + k)) < 97
          · by_cases c2 : sb (b (p + k)) < 48
            · simp (disch := first | assumption | omega) only [fX8_readRun_L16, fX8_readRun_b81, fX8_readRun_b118, fX8_readRun_b120, fX8_readRun_b138, I_lit, orb_I, I_add, I_sub, I_mul, I_neg, nm_eq, bd0_s, bd2_s, un2_eq, un3_eq, un4_eq, un5_eq, un6_eq, cs2_l, cs2_r, mk_1, mk_2, wI_mk, wL_mk, wR_mk, setR_same, setR_setR, rZ_0, rZ_1, rZ_b2, it_b2, it_nb2, it_b21, it_nb21, I_lt, I_le, I_eq, I_div, castI, if_true, if_false, Classical.not_not, updf_ne, updf_same, hn, h1, g3, gC65_0, ldC66, setR_ne, t2, c1, c2, updf_updf]
            · have c3 : 57 < sb (b (p + k)) := by omega
              simp (disch := first | assumption | omega) only [fX8_readRun_L16, fX8_readRun_b81, fX8_readRun_b118, fX8_readRun_b120, fX8_readRun_b138, I_lit, orb_I, I_add, I_sub, I_mul, I_neg, nm_eq, bd0_s, bd2_s, un2_eq, un3_eq, un4_eq, un5_eq, un6_eq, cs2_l, cs2_r, mk_1, mk_2, wI_mk, wL_mk, wR_mk, setR_same, setR_setR, rZ_0, rZ_1, rZ_b2, it_b2, it_nb2, it_b21, it_nb21, I_lt, I_le, I_eq, I_div, castI, if_true, if_false, Classical.not_not, updf_ne, updf_same, hn, h1, g3, gC65_0, ldC66, setR_ne, t2, c1, c2, c3, updf_updf]
          · have c4 : 122 < sb (b (p + k)) := by omega
            have c2 : ¬ (sb (b (p + k)) < 48) := by omega
            have c3 : 57 < sb (b (p + k)) := by omega
            simp (disch := first | assumption | omega) only [fX8_readRun_L16, fX8_readRun_b81, fX8_readRun_b118, fX8_readRun_b120, fX8_readRun_b138, I_lit, orb_I, I_add, I_sub, I_mul, I_neg, nm_eq, bd0_s, bd2_s, un2_eq, un3_eq, un4_eq, un5_eq, un6_eq, cs2_l, cs2_r, mk_1, mk_2, wI_mk, wL_mk, wR_mk, setR_same, setR_setR, rZ_0, rZ_1, rZ_b2, it_b2, it_nb2, it_b21, it_nb21, I_lt, I_le, I_eq, I_div, castI, if_true, if_false, Classical.not_not, updf_ne, updf_same, hn, h1, g3, gC65_0, ldC66, setR_ne, t2, c1, c2, c3, c4, updf_updf]
        · have hk2 : k < L := by omega
          rw [if_pos (by omega), if_pos (by omega)]
          exact C_runStep hS hr tp' hn hp.1 (by omega) (r4 (p + k) (by omega) (by omega))) (by
        rw [if_neg (by omega)]
        simp (disch := first | assumption | omega) only [fX8_readRun_L16, I_lit, orb_I, I_add, I_sub, I_mul, I_neg, nm_eq, bd0_s, bd2_s, un2_eq, un3_eq, un4_eq, un5_eq, un6_eq, cs2_l, cs2_r, mk_1, mk_2, wI_mk, wL_mk, wR_mk, setR_same, setR_setR, rZ_0, rZ_1, rZ_b2, it_b2, it_nb2, it_b21, it_nb21, I_lt, I_le, I_eq, I_div, castI, if_true, if_false, Classical.not_not])
      have e1 : (if 0 ≤ L then (I (lcK b p 0), I (((0 : Nat) : Int) - lcK b p 0), I 1, runS Q w rf b p 0) else (I (lcK b p L), I (L - lcK b p L), I 0, runS Q w rf b p L)) = (I 0, I 0, I 1, runS Q w rf b p 0) := by
        rw [if_pos (Nat.zero_le L)]; rfl
      simp only [e1] at this
      exact this
  have main : fX8_readRun S (mk Q w rf) 65 = fX8_readRun_b144 S (runS Q w rf b p L) 65 (I (lcK b p L)) (I (L - lcK b p L)) := by
    simp (disch := first | assumption | omega) only [fX8_readRun, I_lit, orb_I, I_add, I_sub, I_mul, I_neg, nm_eq, bd0_s, bd2_s, un2_eq, un3_eq, un4_eq, un5_eq, un6_eq, cs2_l, cs2_r, mk_1, mk_2, wI_mk, wL_mk, wR_mk, setR_same, setR_setR, rZ_0, rZ_1, rZ_b2, it_b2, it_nb2, it_b21, it_nb21, I_lt, I_le, I_eq, I_div, castI, if_true, if_false, Classical.not_not, e0, l1]
  rw [main]
  unfold runS kdC
  by_cases q1 : (L : Int) - lcK b p L = 0
  · by_cases q2 : 0 < lcK b p L
    · by_cases q3 : lcK b p L ≤ 7
      · have g1 : ¬ (lcK b p L ≤ 0) := by omega
        have g2 : ¬ (7 < lcK b p L) := by omega
        rw [ii_t ⟨q1, q2, q3⟩]
        simp (disch := first | assumption | omega) only [fX8_readRun_b144, fX8_readRun_b189, I_lit, orb_I, I_add, I_sub, I_mul, I_neg, nm_eq, bd0_s, bd2_s, un2_eq, un3_eq, un4_eq, un5_eq, un6_eq, cs2_l, cs2_r, mk_1, mk_2, wI_mk, wL_mk, wR_mk, setR_same, setR_setR, rZ_0, rZ_1, rZ_b2, it_b2, it_nb2, it_b21, it_nb21, I_lt, I_le, I_eq, I_div, castI, if_true, if_false, Classical.not_not, q1, not_true, g1, g2, updf_updf]
      · have g1 : ¬ (lcK b p L ≤ 0) := by omega
        have g2 : (7 < lcK b p L) := by omega
        have g3 : ¬ (lcK b p L = 0) := by omega
        rw [ii_f (fun h => q3 h.2.2), ii_f (fun h => by omega)]
        simp (disch := first | assumption | omega) only [fX8_readRun_b144, fX8_readRun_b171, fX8_readRun_b189, I_lit, orb_I, I_add, I_sub, I_mul, I_neg, nm_eq, bd0_s, bd2_s, un2_eq, un3_eq, un4_eq, un5_eq, un6_eq, cs2_l, cs2_r, mk_1, mk_2, wI_mk, wL_mk, wR_mk, setR_same, setR_setR, rZ_0, rZ_1, rZ_b2, it_b2, it_nb2, it_b21, it_nb21, I_lt, I_le, I_eq, I_div, castI, if_true, if_false, Classical.not_not, q1, not_true, g1, g2, g3, not_false_eq_true]
    · have g1 : (lcK b p L ≤ 0) := by omega
      have g3 : (lcK b p L = 0) := by omega
      rw [ii_f (fun h => q2 h.2.1), ii_f (fun h => by omega)]
      have e5 : (0 : Int) ≤ 0 := by omega
      simp (disch := first | assumption | omega) only [fX8_readRun_b144, fX8_readRun_b171, fX8_readRun_b189, I_lit, orb_I, I_add, I_sub, I_mul, I_neg, nm_eq, bd0_s, bd2_s, un2_eq, un3_eq, un4_eq, un5_eq, un6_eq, cs2_l, cs2_r, mk_1, mk_2, wI_mk, wL_mk, wR_mk, setR_same, setR_setR, rZ_0, rZ_1, rZ_b2, it_b2, it_nb2, it_b21, it_nb21, I_lt, I_le, I_eq, I_div, castI, if_true, if_false, Classical.not_not, q1, not_true, g3, e5]
      (repeat' split) <;> first | rfl | omega
  · rw [ii_f (fun h => q1 h.1)]
    by_cases q2 : lcK b p L = 0
    · have g1 : ¬ ((L : Int) - lcK b p L ≤ 0) := by omega
      by_cases q3 : (L : Int) - lcK b p L ≤ 3
      · have g2 : ¬ (3 < (L : Int) - lcK b p L) := by omega
        rw [ii_t ⟨q2, by omega, q3⟩]
        simp (disch := first | assumption | omega) only [fX8_readRun_b144, fX8_readRun_b171, fX8_readRun_b189, I_lit, orb_I, I_add, I_sub, I_mul, I_neg, nm_eq, bd0_s, bd2_s, un2_eq, un3_eq, un4_eq, un5_eq, un6_eq, cs2_l, cs2_r, mk_1, mk_2, wI_mk, wL_mk, wR_mk, setR_same, setR_setR, rZ_0, rZ_1, rZ_b2, it_b2, it_nb2, it_b21, it_nb21, I_lt, I_le, I_eq, I_div, castI, if_true, if_false, Classical.not_not, q1, not_false_eq_true, not_true, g1, g2, updf_updf]
        rw [if_neg (by omega)]
      · have g2 : (3 < (L : Int) - lcK b p L) := by omega
        rw [ii_f (fun h => q3 h.2.2)]
        simp (disch := first | assumption | omega) only [fX8_readRun_b144, fX8_readRun_b171, fX8_readRun_b189, I_lit, orb_I, I_add, I_sub, I_mul, I_neg, nm_eq, bd0_s, bd2_s, un2_eq, un3_eq, un4_eq, un5_eq, un6_eq, cs2_l, cs2_r, mk_1, mk_2, wI_mk, wL_mk, wR_mk, setR_same, setR_setR, rZ_0, rZ_1, rZ_b2, it_b2, it_nb2, it_b21, it_nb21, I_lt, I_le, I_eq, I_div, castI, if_true, if_false, Classical.not_not, q1, not_false_eq_true, g1, g2]
        rw [if_neg (by omega)]
    · rw [ii_f (fun h => q2 h.1)]
      simp (disch := first | assumption | omega) only [fX8_readRun_b144, fX8_readRun_b171, fX8_readRun_b189, I_lit, orb_I, I_add, I_sub, I_mul, I_neg, nm_eq, bd0_s, bd2_s, un2_eq, un3_eq, un4_eq, un5_eq, un6_eq, cs2_l, cs2_r, mk_1, mk_2, wI_mk, wL_mk, wR_mk, setR_same, setR_setR, rZ_0, rZ_1, rZ_b2, it_b2, it_nb2, it_b21, it_nb21, I_lt, I_le, I_eq, I_div, castI, if_true, if_false, Classical.not_not, q1, not_false_eq_true, q2]
def gdK (b : Int → Int) (p : Int) (k : Nat) : Prop := ∀ j : Nat, j < k → (isL (b (p + j)) ↔ isL (b p))
noncomputable def wrK (b : Int → Int) (p : Int) : Nat → Int64
  | 0 => 0
  | k + 1 => ii ((k : Int) < 7) (27 * wrK b p k + (I (b (p + k))).toInt64 - 96) (wrK b p k)
noncomputable def nrK (b : Int → Int) (p : Int) : Nat → Int
  | 0 => 0
  | k + 1 => ii ((k : Int) < 3) (10 * nrK b p k + b (p + k) - 48) (nrK b p k)
noncomputable def runM (R : Nat → Int → Int) (w : Nat → Nat → Int64) (rf : Nat → Nat → Option Nat) (b : Int → Int) (p : Int) (k : Nat) : mm := mk (setR R 64 (updf (updf (R 64) 8 (nrK b p k)) 5 (p + k))) (up2 w 64 12 (wrK b p k)) rf
theorem M_isLetter {S : Nat → Nat × Nat} {σ : mm} {c : Int} (hc : 0 ≤ c ∧ c ≤ 255) : fX13_isLetter S σ (I c) = some (b2 (isL c)) := by
  unfold isL
  simp (disch := first | assumption | omega) only [fX13_isLetter, fX13_isLetter_b16, fX13_isLetter_b17, I_lit, orb_I, I_add, I_sub, I_mul, I_neg, nm_eq, bd0_s, bd2_s, un2_eq, un3_eq, un4_eq, un5_eq, un6_eq, cs2_l, cs2_r, mk_1, mk_2, wI_mk, wL_mk, wR_mk, setR_same, setR_setR, rZ_0, rZ_1, rZ_b2, it_b2, it_nb2, it_b21, it_nb21, I_lt, I_le, I_eq, I_div, castI, if_true, if_false, Classical.not_not]
  (repeat' split) <;> (first | exact sb_t (by omega) | exact sb_f (by omega))
theorem M_isDigit {S : Nat → Nat × Nat} {σ : mm} {c : Int} (hc : 0 ≤ c ∧ c ≤ 255) : fX13_isDigit S σ (I c) = some (b2 (isD c)) := by
  unfold isD
  simp (disch := first | assumption | omega) only [fX13_isDigit, fX13_isDigit_b16, fX13_isDigit_b17, I_lit, orb_I, I_add, I_sub, I_mul, I_neg, nm_eq, bd0_s, bd2_s, un2_eq, un3_eq, un4_eq, un5_eq, un6_eq, cs2_l, cs2_r, mk_1, mk_2, wI_mk, wL_mk, wR_mk, setR_same, setR_setR, rZ_0, rZ_1, rZ_b2, it_b2, it_nb2, it_b21, it_nb21, I_lt, I_le, I_eq, I_div, castI, if_true, if_false, Classical.not_not]
  (repeat' split) <;> (first | exact sb_t (by omega) | exact sb_f (by omega))
theorem gd_succ {b : Int → Int} {p : Int} {k : Nat} : gdK b p (k + 1) ↔ gdK b p k ∧ (isL (b (p + k)) ↔ isL (b p)) := by
  constructor
  · intro h
    exact ⟨fun j hj => h j (by omega), h k (by omega)⟩
  · intro h j hj
    by_cases e : j = k
    · rw [e]; exact h.2
    · exact h.1 j (by omega)
theorem b2_ne {P Q : Prop} : (b2 P = b2 Q) ↔ (P ↔ Q) := by
  by_cases h : P
  · by_cases g : Q
    · rw [b2_t h, b2_t g]; exact ⟨fun _ => ⟨fun _ => g, fun _ => h⟩, fun _ => rfl⟩
    · rw [b2_t h, b2_f g]; exact ⟨fun e => absurd e (by decide), fun e => absurd (e.1 h) g⟩
  · by_cases g : Q
    · rw [b2_f h, b2_t g]; exact ⟨fun e => absurd e (by decide), fun e => absurd (e.2 g) h⟩
    · rw [b2_f h, b2_f g]; exact ⟨fun _ => ⟨fun x => absurd x h, fun x => absurd x g⟩, fun _ => rfl⟩
theorem M_runStep {S : Nat → Nat × Nat} {R : Nat → Int → Int} {w : Nat → Nat → Int64} {rf : Nat → Nat → Option Nat} {n p : Int} {k : Nat} (hS : SMok S) (hr : RMok rf) (hb : 0 ≤ n ∧ n ≤ 940) (tb : ∀ i, 0 ≤ i → i < n → 0 ≤ R 65 i ∧ R 65 i ≤ 255) (hn : R 64 3 = n) (h6 : R 64 6 = p) (hp : 0 ≤ p) (hk : p + k < n) (han : isL (R 65 (p + k)) ∨ isD (R 65 (p + k))) : fX13_go_L215 S 64 (b2 (isL (R 65 p))) (b2 (gdK (R 65) p k), runM R w rf (R 65) p k) = some (.inl (b2 (gdK (R 65) p (k + 1)), runM R w rf (R 65) p (k + 1))) := by
  have t1 := tb (p + k) (by omega) hk
  have h1 : ¬ (n ≤ p + (k : Int)) := by omega
  have ek : p + (k : Int) + 1 = p + ((k + 1 : Nat) : Int) := by omega
  have em : p + (k : Int) - p = k := by omega
  have e1 : wrK (R 65) p (k + 1) = ii ((k : Int) < 7) (27 * wrK (R 65) p k + (I (R 65 (p + k))).toInt64 - 96) (wrK (R 65) p k) := rfl
  have e2 : nrK (R 65) p (k + 1) = ii ((k : Int) < 3) (10 * nrK (R 65) p k + R 65 (p + k) - 48) (nrK (R 65) p k) := rfl
  have tail : ∀ (s0 : Int32), fX13_go_b272 S (runM R w rf (R 65) p k) 64 (b2 (isL (R 65 p))) (I (R 65 (p + k))) s0 = some (.inl (s0, runM R w rf (R 65) p (k + 1))) := by
    intro s0
    unfold runM
    rw [e1, e2]
    have ec : ∀ x, updf (updf (updf (updf (R 64) 8 (nrK (R 65) p k)) 5 (p + k)) 8 x) 5 (p + ((k + 1 : Nat) : Int)) = updf (updf (R 64) 8 x) 5 (p + ((k + 1 : Nat) : Int)) := fun x => by
      rw [updf_comm (z := 5) (z' := 8) (by omega), updf_updf, updf_updf]
    by_cases c3 : (k : Int) < 3
    · have c7 : (k : Int) < 7 := by omega
      have d3 : ¬ (3 ≤ (k : Int)) := by omega
      have d7 : ¬ (7 ≤ (k : Int)) := by omega
      rw [ii_t c3, ii_t c7]
      simp (disch := first | assumption | omega) only [fX13_go_b272, fX13_go_b307, fX13_go_b337, I_lit, orb_I, I_add, I_sub, I_mul, I_neg, nm_eq, bd0_s, bd2_s, un2_eq, un3_eq, un4_eq, un5_eq, un6_eq, cs2_l, cs2_r, mk_1, mk_2, wI_mk, wL_mk, wR_mk, setR_same, setR_setR, rZ_0, rZ_1, rZ_b2, it_b2, it_nb2, it_b21, it_nb21, I_lt, I_le, I_eq, I_div, castI, if_true, if_false, Classical.not_not, updf_ne, updf_same, h6, em, d3, d7, up2_same, up2_up2, ek, ec]
    · have d3 : 3 ≤ (k : Int) := by omega
      rw [ii_f c3]
      by_cases c7 : (k : Int) < 7
      · have d7 : ¬ (7 ≤ (k : Int)) := by omega
        rw [ii_t c7]
        simp (disch := first | assumption | omega) only [fX13_go_b272, fX13_go_b307, fX13_go_b337, I_lit, orb_I, I_add, I_sub, I_mul, I_neg, nm_eq, bd0_s, bd2_s, un2_eq, un3_eq, un4_eq, un5_eq, un6_eq, cs2_l, cs2_r, mk_1, mk_2, wI_mk, wL_mk, wR_mk, setR_same, setR_setR, rZ_0, rZ_1, rZ_b2, it_b2, it_nb2, it_b21, it_nb21, I_lt, I_le, I_eq, I_div, castI, if_true, if_false, Classical.not_not, updf_ne, updf_same, h6, em, d3, d7, up2_same, up2_up2, updf_updf, ek]
      · have d7 : 7 ≤ (k : Int) := by omega
        rw [ii_f c7]
        simp (disch := first | assumption | omega) only [fX13_go_b272, fX13_go_b307, fX13_go_b337, I_lit, orb_I, I_add, I_sub, I_mul, I_neg, nm_eq, bd0_s, bd2_s, un2_eq, un3_eq, un4_eq, un5_eq, un6_eq, cs2_l, cs2_r, mk_1, mk_2, wI_mk, wL_mk, wR_mk, setR_same, setR_setR, rZ_0, rZ_1, rZ_b2, it_b2, it_nb2, it_b21, it_nb21, I_lt, I_le, I_eq, I_div, castI, if_true, if_false, Classical.not_not, updf_ne, updf_same, h6, em, d3, d7, updf_updf, ek]
  have g243 : fX13_go_b243 S (runM R w rf (R 65) p k) 64 (b2 (isL (R 65 p))) (b2 (gdK (R 65) p k)) = some (.inl (b2 (gdK (R 65) p (k + 1)), runM R w rf (R 65) p (k + 1))) := by
    have pre : ∀ (F : Int32 → Option ((Int32 × mm) ⊕ (Int32 × mm))), (gR (runM R w rf (R 65) p k) 64 1 fun r1 => ldI S (runM R w rf (R 65) p k) r1 ((runM R w rf (R 65) p k).1 64 5) F) = F (I (R 65 (p + k))) := by
      intro F
      unfold runM
      simp (disch := first | assumption | omega) only [I_lit, orb_I, I_add, I_sub, I_mul, I_neg, nm_eq, bd0_s, bd2_s, un2_eq, un3_eq, un4_eq, un5_eq, un6_eq, cs2_l, cs2_r, mk_1, mk_2, wI_mk, wL_mk, wR_mk, setR_same, setR_setR, rZ_0, rZ_1, rZ_b2, it_b2, it_nb2, it_b21, it_nb21, I_lt, I_le, I_eq, I_div, castI, if_true, if_false, Classical.not_not, gM1, updf_same, ldM65, setR_ne]
    unfold fX13_go_b243
    rw [pre]
    simp only [I_lit]
    rw [it_b2]
    by_cases q : gdK (R 65) p k
    · rw [if_pos q, M_isLetter t1, bd0_s]
      by_cases q2 : isL (R 65 (p + k)) ↔ isL (R 65 p)
      · rw [if_neg (fun h => h (b2_ne.2 q2)), tail, b2_t (p := gdK (R 65) p (k + 1)) (gd_succ.2 ⟨q, q2⟩)]; rfl
      · rw [if_pos (fun h => q2 (b2_ne.1 h))]
        unfold fX13_go_b271
        rw [tail, b2_f (p := gdK (R 65) p (k + 1)) (fun h => q2 (gd_succ.1 h).2)]
    · rw [if_neg q]
      unfold fX13_go_b271
      rw [tail, b2_f (p := gdK (R 65) p (k + 1)) (fun h => q (gd_succ.1 h).1)]
  have ta : fX13_tapeAt S (runM R w rf (R 65) p k) 64 ((runM R w rf (R 65) p k).1 64 5) = some (I (R 65 (p + k))) := by
    unfold runM
    simp (disch := first | assumption | omega) only [fX13_tapeAt, fX13_tapeAt_b18, I_lit, orb_I, I_add, I_sub, I_mul, I_neg, nm_eq, bd0_s, bd2_s, un2_eq, un3_eq, un4_eq, un5_eq, un6_eq, cs2_l, cs2_r, mk_1, mk_2, wI_mk, wL_mk, wR_mk, setR_same, setR_setR, rZ_0, rZ_1, rZ_b2, it_b2, it_nb2, it_b21, it_nb21, I_lt, I_le, I_eq, I_div, castI, if_true, if_false, Classical.not_not, updf_ne, updf_same, hn, h1, gM1, ldM65, setR_ne]
  unfold fX13_go_L215
  simp only [un2_eq, ta, bd0_s, M_isLetter t1, M_isDigit t1, I_lit, it_nb2, it_b2]
  by_cases q : isL (R 65 (p + k))
  · rw [if_pos q]; exact g243
  · rw [if_neg q]
    have q2 : isD (R 65 (p + k)) := by
      rcases han with h | h
      · exact absurd h q
      · exact h
    rw [if_pos q2]; exact g243
noncomputable def kdM (b : Int → Int) (p : Int) (L : Nat) : Int := ii (gdK b p L) (ii (isL (b p)) (ii ((L : Int) ≤ 7) 2 1) (ii ((L : Int) ≤ 3) 3 1)) 1
theorem M_goRun {S : Nat → Nat × Nat} {R : Nat → Int → Int} {w : Nat → Nat → Int64} {rf : Nat → Nat → Option Nat} {n p : Int} {L : Nat} (hS : SMok S) (hr : RMok rf) (hb : 0 ≤ n ∧ n ≤ 940) (tb : ∀ i, 0 ≤ i → i < n → 0 ≤ R 65 i ∧ R 65 i ≤ 255) (hn : R 64 3 = n) (h6 : R 64 6 = p) (h5 : R 64 5 = p) (hp : 0 ≤ p ∧ p < n) (hL : p + L = rn (R 65) n p) : fX13_go_b198 S (mk R w rf) 64 (I (R 65 p)) = some (mk (setR R 64 (updf (updf (updf (R 64) 8 (nrK (R 65) p L)) 5 (p + L)) 7 (kdM (R 65) p L))) (up2 w 64 12 (wrK (R 65) p L)) rf) := by
  obtain ⟨⟨r1, r2⟩, r3, r4⟩ := rn_r (b := R 65) (n := n) (a := p) (by omega)
  have t1 := tb p hp.1 hp.2
  have l1 := loop_seq (f := fX13_go_L215 S 64 (b2 (isL (R 65 p)))) (m := 1000) (fun k => (b2 (gdK (R 65) p k), runM R w rf (R 65) p k)) L (r := (b2 (gdK (R 65) p L), runM R w rf (R 65) p L)) (by omega) (fun k hk => M_runStep hS hr hb tb hn h6 hp.1 (by omega) (r4 (p + k) (by omega) (by omega))) (by
    by_cases hq : n ≤ p + (L : Int)
    · have ta : fX13_tapeAt S (runM R w rf (R 65) p L) 64 ((runM R w rf (R 65) p L).1 64 5) = some (I 0) := by
        unfold runM
        simp (disch := first | assumption | omega) only [fX13_tapeAt, fX13_tapeAt_b18, I_lit, orb_I, I_add, I_sub, I_mul, I_neg, nm_eq, bd0_s, bd2_s, un2_eq, un3_eq, un4_eq, un5_eq, un6_eq, cs2_l, cs2_r, mk_1, mk_2, wI_mk, wL_mk, wR_mk, setR_same, setR_setR, rZ_0, rZ_1, rZ_b2, it_b2, it_nb2, it_b21, it_nb21, I_lt, I_le, I_eq, I_div, castI, if_true, if_false, Classical.not_not, updf_ne, updf_same, hn, hq]
      unfold fX13_go_L215
      simp only [un2_eq, ta, bd0_s, M_isLetter (c := 0) (by omega), M_isDigit (c := 0) (by omega), I_lit, it_nb2, it_b2]
      rw [if_neg (by unfold isL; omega), if_neg (by unfold isD; omega)]
    · obtain ⟨nl, nd⟩ := r3 (by omega)
      rw [← hL] at nl nd
      have t2 := tb (p + L) (by omega) (by omega)
      have ta : fX13_tapeAt S (runM R w rf (R 65) p L) 64 ((runM R w rf (R 65) p L).1 64 5) = some (I (R 65 (p + L))) := by
        unfold runM
        simp (disch := first | assumption | omega) only [fX13_tapeAt, fX13_tapeAt_b18, I_lit, orb_I, I_add, I_sub, I_mul, I_neg, nm_eq, bd0_s, bd2_s, un2_eq, un3_eq, un4_eq, un5_eq, un6_eq, cs2_l, cs2_r, mk_1, mk_2, wI_mk, wL_mk, wR_mk, setR_same, setR_setR, rZ_0, rZ_1, rZ_b2, it_b2, it_nb2, it_b21, it_nb21, I_lt, I_le, I_eq, I_div, castI, if_true, if_false, Classical.not_not, updf_ne, updf_same, hn, hq, gM1, ldM65, setR_ne]
      unfold fX13_go_L215
      simp only [un2_eq, ta, bd0_s, M_isLetter t2, M_isDigit t2, I_lit, it_nb2, it_b2]
      rw [if_neg nl, if_neg nd])
  have e0 : (b2 (gdK (R 65) p 0), runM R w rf (R 65) p 0) = (I 1, mk (setR R 64 (updf (R 64) 8 0)) (up2 w 64 12 0) rf) := by
    rw [b2_t (p := gdK (R 65) p 0) (fun j hj => by omega)]
    unfold runM
    have : updf (updf (R 64) 8 0) 5 (p + ((0 : Nat) : Int)) = updf (R 64) 8 0 := updf_noop (by rw [updf_ne (by omega), h5]; omega)
    show (1, mk (setR R 64 (updf (updf (R 64) 8 0) 5 (p + ((0 : Nat) : Int)))) (up2 w 64 12 0) rf) = _
    rw [this]; rfl
  simp only [e0] at l1
  have em : p + (L : Int) - p = L := by omega
  unfold kdM
  simp (disch := first | assumption | omega) only [fX13_go_b198, M_isLetter t1, I_lit, orb_I, I_add, I_sub, I_mul, I_neg, nm_eq, bd0_s, bd2_s, un2_eq, un3_eq, un4_eq, un5_eq, un6_eq, cs2_l, cs2_r, mk_1, mk_2, wI_mk, wL_mk, wR_mk, setR_same, setR_setR, rZ_0, rZ_1, rZ_b2, it_b2, it_nb2, it_b21, it_nb21, I_lt, I_le, I_eq, I_div, castI, if_true, if_false, Classical.not_not, l1]
  unfold runM
  by_cases q1 : gdK (R 65) p L
  · rw [ii_t q1, if_pos q1]
    by_cases q2 : isL (R 65 p)
    · rw [ii_t q2, if_pos q2]
      by_cases q3 : (L : Int) ≤ 7
      · rw [ii_t q3]
        simp (disch := first | assumption | omega) only [fX13_go_b374, fX13_go_b390, I_lit, orb_I, I_add, I_sub, I_mul, I_neg, nm_eq, bd0_s, bd2_s, un2_eq, un3_eq, un4_eq, un5_eq, un6_eq, cs2_l, cs2_r, mk_1, mk_2, wI_mk, wL_mk, wR_mk, setR_same, setR_setR, rZ_0, rZ_1, rZ_b2, it_b2, it_nb2, it_b21, it_nb21, I_lt, I_le, I_eq, I_div, castI, if_true, if_false, Classical.not_not, updf_ne, updf_same, h6, em, q3, q2]
      · rw [ii_f q3]
        simp (disch := first | assumption | omega) only [fX13_go_b374, fX13_go_b377, fX13_go_b390, I_lit, orb_I, I_add, I_sub, I_mul, I_neg, nm_eq, bd0_s, bd2_s, un2_eq, un3_eq, un4_eq, un5_eq, un6_eq, cs2_l, cs2_r, mk_1, mk_2, wI_mk, wL_mk, wR_mk, setR_same, setR_setR, rZ_0, rZ_1, rZ_b2, it_b2, it_nb2, it_b21, it_nb21, I_lt, I_le, I_eq, I_div, castI, if_true, if_false, Classical.not_not, updf_ne, updf_same, h6, em, q3]
    · rw [ii_f q2, if_neg q2]
      by_cases q3 : (L : Int) ≤ 3
      · rw [ii_t q3]
        simp (disch := first | assumption | omega) only [fX13_go_b374, fX13_go_b390, I_lit, orb_I, I_add, I_sub, I_mul, I_neg, nm_eq, bd0_s, bd2_s, un2_eq, un3_eq, un4_eq, un5_eq, un6_eq, cs2_l, cs2_r, mk_1, mk_2, wI_mk, wL_mk, wR_mk, setR_same, setR_setR, rZ_0, rZ_1, rZ_b2, it_b2, it_nb2, it_b21, it_nb21, I_lt, I_le, I_eq, I_div, castI, if_true, if_false, Classical.not_not, updf_ne, updf_same, h6, em, q3, q2]
      · rw [ii_f q3]
        simp (disch := first | assumption | omega) only [fX13_go_b374, fX13_go_b377, fX13_go_b390, I_lit, orb_I, I_add, I_sub, I_mul, I_neg, nm_eq, bd0_s, bd2_s, un2_eq, un3_eq, un4_eq, un5_eq, un6_eq, cs2_l, cs2_r, mk_1, mk_2, wI_mk, wL_mk, wR_mk, setR_same, setR_setR, rZ_0, rZ_1, rZ_b2, it_b2, it_nb2, it_b21, it_nb21, I_lt, I_le, I_eq, I_div, castI, if_true, if_false, Classical.not_not, updf_ne, updf_same, h6, em, q3]
  · rw [ii_f q1, if_neg q1]
    simp (disch := first | assumption | omega) only [fX13_go_b377, fX13_go_b390, I_lit, orb_I, I_add, I_sub, I_mul, I_neg, nm_eq, bd0_s, bd2_s, un2_eq, un3_eq, un4_eq, un5_eq, un6_eq, cs2_l, cs2_r, mk_1, mk_2, wI_mk, wL_mk, wR_mk, setR_same, setR_setR, rZ_0, rZ_1, rZ_b2, it_b2, it_nb2, it_b21, it_nb21, I_lt, I_le, I_eq, I_div, castI, if_true, if_false, Classical.not_not]
