noncomputable def md (N : Int → Int) (p h : Int) : Int := ii (N 4 ≤ fdA N p h) (ii (awkA N p h) 5 4) 0
theorem md_c {N : Int → Int} {p h : Int} : md N p h = 0 ∨ md N p h = 4 ∨ md N p h = 5 := by
  unfold md ii
  (repeat' split)
  · exact Or.inr (Or.inr rfl)
  · exact Or.inr (Or.inl rfl)
  · exact Or.inl rfl
noncomputable def mdd (N : Int → Int) (g h : Int) : Int := md N (N (56 + g)) h + 2 * md N (N (60 + g)) h
theorem mdd_or {a b : Int} (ha : a = 0 ∨ a = 4 ∨ a = 5) (hb : b = 0 ∨ b = 4 ∨ b = 5) : I a ||| (I b <<< (I 1 &&& I 31)) = I (a + 2 * b) := by
  rcases ha with h | h | h <;> subst h <;> rcases hb with h | h | h <;> subst h <;> decide
def FO (N : Int → Int) (g : Int) (Q : Nat → Int → Int) : Prop := Q 186 4 = g ∧ ∀ h, N 102 ≤ h → h < 600 → Q 187 h = runA N g h ∧ Q 188 h = mdd N g h
theorem fdA_h {N : Int → Int} {p : Int} {k : Nat} : fdA N p (N 102 + k) = fdK N p k := by
  unfold fdA
  have : (N 102 + (k : Int) - N 102).toNat = k := by omega
  rw [this]
theorem C_mood {S : Nat → Nat × Nat} {Q : Nat → Int → Int} {w : Nat → Nat → Int64} {rf : Nat → Nat → Option Nat} {N : Int → Int} {p h : Int} (hS : SCok S) (hr : RCok rf) (wf : WFP N) (wl : WFL N) (cp : CP 67 Q N) (cl : CL 104 Q N) (hp : 0 ≤ p ∧ p < N 0) (hh : N 102 ≤ h ∧ h < 600) : fX1_mood S (mk Q w rf) 186 (I p) (I (fdA N p h)) (I h) = some (I (md N p h)) := by
  have hw := C_isWoken (S := S) (w := w) (rf := rf) (p := p) cl
  have hb := wl.1
  have wn0 := wf.1
  have h4 := wf.2.2.2.2.1
  have hf : 0 ≤ fdA N p h ∧ fdA N p h ≤ 99 := fdK_r wf wl (by omega) (h - N 102).toNat
  have hu := C_isUp (w := w) hS hr isPar67 wf cp hp (⟨by omega, by omega⟩ : 0 ≤ h ∧ h < 2147483648)
  have c102 := cl.1.1
  have ip67 := isPar67; obtain ⟨⟨c0, c1, c2, c3, c4, c5, c6, c7⟩, cpp, cpg, cpd, cpk⟩ := CPl_of cp
  simp (disch := first | assumption | omega) only [fX1_mood, fX1_mood_b39, fX1_mood_b40, fX1_mood_b59, fX1_mood_b64, I_lit, orb_I, I_add, I_sub, I_mul, I_neg, nm_eq, bd0_s, bd2_s, un2_eq, un3_eq, un4_eq, un5_eq, un6_eq, cs2_l, cs2_r, mk_1, mk_2, wI_mk, wL_mk, wR_mk, setR_same, setR_setR, rZ_0, rZ_1, rZ_b2, it_b2, it_nb2, it_b21, it_nb21, I_lt, I_le, I_eq, I_div, castI, if_true, if_false, Classical.not_not, gC186_0, gC186_1, c4, c102, hw, hu]
  unfold md awkA
  by_cases q1 : N 4 ≤ fdA N p h
  · rw [ii_t q1, if_pos q1]
    by_cases q2 : upA (N (8 + p)) (N (16 + p)) h
    · rw [ii_t (Or.inl q2)]
      (repeat' split) <;> first | rfl | contradiction
    · by_cases q3 : h = N 102
      · by_cases q4 : wokA N p
        · rw [ii_t (Or.inr ⟨q3, q4⟩)]
          (repeat' split) <;> first | rfl | contradiction | omega
        · rw [ii_f (fun h => by rcases h with h | h; exact q2 h; exact q4 h.2)]
          (repeat' split) <;> first | rfl | contradiction | omega
      · rw [ii_f (fun h => by rcases h with h | h; exact q2 h; exact q3 h.1)]
        (repeat' split) <;> first | rfl | contradiction | omega
  · rw [ii_f q1, if_neg q1]
theorem C_look {S : Nat → Nat × Nat} {Q : Nat → Int → Int} {w : Nat → Nat → Int64} {rf : Nat → Nat → Option Nat} {N : Int → Int} {g : Int} (hS : SCok S) (hr : RCok rf) (wf : WFP N) (wl : WFL N) (cp : CP 67 Q N) (cl : CL 104 Q N) (hg : 0 ≤ g ∧ g < N 1) : ∃ Q', fX1_look S (mk Q w rf) 186 (I g) = some (mk Q' w rf) ∧ FO N g Q' ∧ (∀ a, a < 186 ∨ 188 < a → Q' a = Q a) := by
  have hb := wl.1
  have wn0 := wf.1
  have wn1 := wf.2.1
  obtain ⟨g1, g2, g4, g5⟩ := WFP_own wf hg
  have cp' := cp
  have cl' := cl
  obtain ⟨τ, h1, Q1, rfl, a1, a2, a3⟩ := loop_inv (f := fX1_look_L56 S 186 (I g) (I (N (56 + g))) (I (N (60 + g)))) (m := 1000) (s := (I (N (105 + N (56 + g))), I (N (105 + N (60 + g))), I (N 102), mk (setR Q 186 (updf (Q 186) 4 g)) w rf)) (fun k s => ∃ Q', s = (I (fdK N (N (56 + g)) k), I (fdK N (N (60 + g)) k), I (N 102 + k), mk Q' w rf) ∧ Q' 186 4 = g ∧ (∀ h, N 102 ≤ h → h < N 102 + k → Q' 187 h = runA N g h ∧ Q' 188 h = mdd N g h) ∧ (∀ a, a < 186 ∨ 188 < a → Q' a = Q a)) (fun r => ∃ Q', r = mk Q' w rf ∧ Q' 186 4 = g ∧ (∀ h, N 102 ≤ h → h < 600 → Q' 187 h = runA N g h ∧ Q' 188 h = mdd N g h) ∧ (∀ a, a < 186 ∨ 188 < a → Q' a = Q a)) (600 - N 102).toNat (by omega) ⟨_, by simp only [fdK]; rw [show ((0 : Nat) : Int) = 0 from rfl, Int.add_zero], by rw [setR_same, updf_same rfl], fun h h1 h2 => by omega, fun a ha => setR_ne (by omega)⟩ (by
      intro k s hk ⟨Q', hs, b1, b2, b3⟩
      subst hs
      left
      have h5 : ¬ (600 ≤ N 102 + (k : Int)) := by omega
      have cp1 : CP 67 Q' N := CP_q cp (fun a h1 h2 => b3 a (by omega))
      have cl1 : CL 104 Q' N := CL_q cl (fun a h1 h2 => b3 a (by omega))
      have cr := C_runsAt (w := w) hS hr isLife104 wf wl cp1 cl1 hg (⟨by omega, by omega⟩ : -1 ≤ N 102 + (k : Int) ∧ N 102 + (k : Int) ≤ 600)
      generalize hQ2 : setR Q' 187 (updf (Q' 187) (N 102 + k) (runA N g (N 102 + k))) = Q2
      have cp2 : CP 67 Q2 N := CP_q cp1 (fun a h1 h2 => by rw [← hQ2, setR_ne (by omega)])
      have cl2 : CL 104 Q2 N := CL_q cl1 (fun a h1 h2 => by rw [← hQ2, setR_ne (by omega)])
      have m1 := C_mood (w := w) (h := N 102 + k) hS hr wf wl cp2 cl2 g1 (by omega)
      have m2 := C_mood (w := w) (h := N 102 + k) hS hr wf wl cp2 cl2 g2 (by omega)
      rw [fdA_h] at m1 m2
      have f1 := fdK_r wf wl (p := N (56 + g)) (by omega) k
      have f2 := fdK_r wf wl (p := N (60 + g)) (by omega) k
      have mo := mdd_or (md_c (N := N) (p := N (56 + g)) (h := N 102 + k)) (md_c (N := N) (p := N (60 + g)) (h := N 102 + k))
      generalize hQ3 : setR Q2 188 (updf (Q2 188) (N 102 + k) (md N (N (56 + g)) (N 102 + k) + 2 * md N (N (60 + g)) (N 102 + k))) = Q3
      have cp3 : CP 67 Q3 N := CP_q cp2 (fun a h1 h2 => by rw [← hQ3, setR_ne (by omega)])
      have n1 := C_fondNextDay (S := S) (w := w) (v := fdK N (N (56 + g)) k) hS hr isPar67 wf cp3 g1 f1
      have n2 := C_fondNextDay (S := S) (w := w) (v := fdK N (N (60 + g)) k) hS hr isPar67 wf cp3 g2 f2
      have e3 : N 102 + (k : Int) - (N 102 + (k : Int)) / 24 * 24 = (N 102 + (k : Int)) % 24 := by omega
      refine ⟨(I (fdK N (N (56 + g)) (k + 1)), I (fdK N (N (60 + g)) (k + 1)), I (N 102 + ((k + 1 : Nat) : Int)), mk Q3 w rf), ?_, Q3, rfl, ?_, ?_, ?_⟩
      · simp (disch := first | assumption | omega) only [fX1_look_L56, fX1_look_b143, I_lit, orb_I, I_add, I_sub, I_mul, I_neg, nm_eq, bd0_s, bd2_s, un2_eq, un3_eq, un4_eq, un5_eq, un6_eq, cs2_l, cs2_r, mk_1, mk_2, wI_mk, wL_mk, wR_mk, setR_same, setR_setR, rZ_0, rZ_1, rZ_b2, it_b2, it_nb2, it_b21, it_nb21, I_lt, I_le, I_eq, I_div, castI, if_true, if_false, Classical.not_not, h5, gC186_2, gC186_1, cr, stC187, hQ2, gC186_3, m1, m2, mo, stC188, hQ3, e3, gC186_0, n1, n2]
        have ek : N 102 + (k : Int) + 1 = N 102 + ((k + 1 : Nat) : Int) := by omega
        rw [ek]
        show _ = some (Sum.inl (I (ii _ _ _), I (ii _ _ _), _, _))
        by_cases h6 : (N 102 + (k : Int)) % 24 = 23
        · rw [ii_t h6, ii_t h6, if_neg (by omega)]
        · rw [ii_f h6, ii_f h6, if_pos h6]
      · rw [← hQ3, setR_ne (by omega), ← hQ2, setR_ne (by omega)]; exact b1
      · intro h hh1 hh2
        rw [← hQ3, setR_ne (by omega), setR_same, ← hQ2, setR_same, setR_ne (by omega)]
        by_cases e : h = N 102 + k
        · rw [updf_same e, updf_same e, e]
          exact ⟨rfl, rfl⟩
        · rw [updf_ne e, updf_ne e]
          exact b2 h hh1 (by omega)
      · intro a ha
        rw [← hQ3, setR_ne (by omega), ← hQ2, setR_ne (by omega)]
        exact b3 a ha) (by
      intro s ⟨Q', hs, b1, b2, b3⟩
      subst hs
      have h5 : (600 ≤ N 102 + ((600 - N 102).toNat : Int)) := by omega
      refine ⟨mk Q' w rf, ?_, Q', rfl, b1, fun h h1 h2 => b2 h h1 (by omega), b3⟩
      simp (disch := first | assumption | omega) only [fX1_look_L56, I_lit, orb_I, I_add, I_sub, I_mul, I_neg, nm_eq, bd0_s, bd2_s, un2_eq, un3_eq, un4_eq, un5_eq, un6_eq, cs2_l, cs2_r, mk_1, mk_2, wI_mk, wL_mk, wR_mk, setR_same, setR_setR, rZ_0, rZ_1, rZ_b2, it_b2, it_nb2, it_b21, it_nb21, I_lt, I_le, I_eq, I_div, castI, if_true, if_false, Classical.not_not, h5])
  refine ⟨Q1, ?_, ⟨a1, a2⟩, a3⟩
  have ip67 := isPar67; obtain ⟨⟨c0, c1, c2, c3, c4, c5, c6, c7⟩, cpp, cpg, cpd, cpk⟩ := CPl_of cp
  have c102 := cl.1.1
  obtain ⟨d1, -⟩ := cl.2.1 _ g1.1 g1.2
  obtain ⟨d2, -⟩ := cl.2.1 _ g2.1 g2.2
  obtain ⟨f1, f2, f3, f4⟩ := cpg g hg.1 hg.2
  have il := isLife104
  simp (disch := first | assumption | omega) only [fX1_look, I_lit, orb_I, I_add, I_sub, I_mul, I_neg, nm_eq, bd0_s, bd2_s, un2_eq, un3_eq, un4_eq, un5_eq, un6_eq, cs2_l, cs2_r, mk_1, mk_2, wI_mk, wL_mk, wR_mk, setR_same, setR_setR, rZ_0, rZ_1, rZ_b2, it_b2, it_nb2, it_b21, it_nb21, I_lt, I_le, I_eq, I_div, castI, if_true, if_false, Classical.not_not, gC186_0, gC186_1, gP0_8, gP0_9, ldP8, ldP9, setR_ne, f1, f2, gL4 (l := 104), ldL1 (l := 104), d1, d2, c102, h1]
theorem mdd_bits {a b : Int} (ha : a = 0 ∨ a = 4 ∨ a = 5) (hb : b = 0 ∨ b = 4 ∨ b = 5) : (I (a + 2 * b) &&& I 3 = I 0 ↔ ¬ (a = 5 ∨ b = 5)) ∧ (I (a + 2 * b) &&& I 1 = I 0 ↔ ¬ (a = 5)) ∧ (I (a + 2 * b) &&& I 2 = I 0 ↔ ¬ (b = 5)) ∧ (I (a + 2 * b) &&& I 12 = I 0 ↔ ¬ (a ≠ 0 ∨ b ≠ 0)) ∧ (I (a + 2 * b) &&& I 4 = I 0 ↔ ¬ (a ≠ 0)) := by
  rcases ha with h | h | h <;> subst h <;> rcases hb with h | h | h <;> subst h <;> decide
theorem md_5 {N : Int → Int} {p h : Int} : md N p h = 5 ↔ wilA N p h := by
  unfold md wilA ii
  (repeat' split)
  · rename_i h1 h2; exact ⟨fun _ => ⟨h2, h1⟩, fun _ => rfl⟩
  · rename_i h1 h2; exact ⟨fun h => by omega, fun h => absurd h.1 h2⟩
  · rename_i h1; exact ⟨fun h => by omega, fun h => absurd h.2 h1⟩
theorem md_0 {N : Int → Int} {p h : Int} : md N p h ≠ 0 ↔ N 4 ≤ fdA N p h := by
  unfold md ii
  (repeat' split)
  · rename_i h1 h2; exact ⟨fun _ => h1, fun _ => by omega⟩
  · rename_i h1 h2; exact ⟨fun _ => h1, fun _ => by omega⟩
  · rename_i h1; exact ⟨fun h => absurd rfl h, fun h => absurd h h1⟩
def someW (N : Int → Int) (g h : Int) : Prop := wilA N (N (56 + g)) h ∨ wilA N (N (60 + g)) h
theorem C_hasG {S : Nat → Nat × Nat} {Q : Nat → Int → Int} {w : Nat → Nat → Int64} {rf : Nat → Nat → Option Nat} {N : Int → Int} {g h b : Int} {P : Prop} (hS : SCok S) (hr : RCok rf) (wl : WFL N) (fo : FO N g Q) (hh : N 102 ≤ h ∧ h < 600) (hP : I (mdd N g h) &&& I b = I 0 ↔ ¬ P) : fX1_has S (mk Q w rf) 186 (I h) (I b) = some (b2 P) := by
  have hb := wl.1
  have h1 : ¬ (h < 0) := by omega
  have h2 : ¬ (600 ≤ h) := by omega
  have e := (fo.2 h hh.1 hh.2).2
  simp (disch := first | assumption | omega) only [fX1_has, fX1_has_b26, fX1_has_b27, I_lit, orb_I, I_add, I_sub, I_mul, I_neg, nm_eq, bd0_s, bd2_s, un2_eq, un3_eq, un4_eq, un5_eq, un6_eq, cs2_l, cs2_r, mk_1, mk_2, wI_mk, wL_mk, wR_mk, setR_same, setR_setR, rZ_0, rZ_1, rZ_b2, it_b2, it_nb2, it_b21, it_nb21, I_lt, I_le, I_eq, I_div, castI, if_true, if_false, Classical.not_not, h1, h2, gC186_3, ldC188, e]
  by_cases q : P
  · rw [b2_t q, if_neg (fun h => (hP.1 h) q)]; rfl
  · rw [b2_f q, if_pos (hP.2 q)]; rfl
theorem C_some {S : Nat → Nat × Nat} {Q : Nat → Int → Int} {w : Nat → Nat → Int64} {rf : Nat → Nat → Option Nat} {N : Int → Int} {g h : Int} (hS : SCok S) (hr : RCok rf) (wl : WFL N) (fo : FO N g Q) (hh : N 102 ≤ h ∧ h < 600) : fX1_isSomeoneWilling S (mk Q w rf) 186 (I h) = some (b2 (someW N g h)) := by
  have e := C_hasG (S := S) (w := w) (b := 3) (P := someW N g h) hS hr wl fo hh (by
    have := (mdd_bits (md_c (N := N) (p := N (56 + g)) (h := h)) (md_c (N := N) (p := N (60 + g)) (h := h))).1
    unfold someW
    rw [← md_5, ← md_5]
    exact this)
  simp (disch := first | assumption | omega) only [fX1_isSomeoneWilling, I_lit, orb_I, I_add, I_sub, I_mul, I_neg, nm_eq, bd0_s, bd2_s, un2_eq, un3_eq, un4_eq, un5_eq, un6_eq, cs2_l, cs2_r, mk_1, mk_2, wI_mk, wL_mk, wR_mk, setR_same, setR_setR, rZ_0, rZ_1, rZ_b2, it_b2, it_nb2, it_b21, it_nb21, I_lt, I_le, I_eq, I_div, castI, if_true, if_false, Classical.not_not, e]
theorem C_hasB {S : Nat → Nat × Nat} {Q : Nat → Int → Int} {w : Nat → Nat → Int64} {rf : Nat → Nat → Option Nat} {N : Int → Int} {g h : Int} (hS : SCok S) (hr : RCok rf) (wl : WFL N) (fo : FO N g Q) (hh : N 102 ≤ h ∧ h < 600) : fX1_has S (mk Q w rf) 186 (I h) (I 1) = some (b2 (wilA N (N (56 + g)) h)) ∧ fX1_has S (mk Q w rf) 186 (I h) (I 2) = some (b2 (wilA N (N (60 + g)) h)) ∧ fX1_has S (mk Q w rf) 186 (I h) (I 12) = some (b2 (N 4 ≤ fdA N (N (56 + g)) h ∨ N 4 ≤ fdA N (N (60 + g)) h)) ∧ fX1_has S (mk Q w rf) 186 (I h) (I 4) = some (b2 (N 4 ≤ fdA N (N (56 + g)) h)) := by
  obtain ⟨-, b1, b2, b3, b4⟩ := mdd_bits (md_c (N := N) (p := N (56 + g)) (h := h)) (md_c (N := N) (p := N (60 + g)) (h := h))
  rw [md_5] at b1
  rw [md_5] at b2
  rw [md_0, md_0] at b3
  rw [md_0] at b4
  exact ⟨C_hasG hS hr wl fo hh b1, C_hasG hS hr wl fo hh b2, C_hasG hS hr wl fo hh b3, C_hasG hS hr wl fo hh b4⟩
def EndAt (N : Int → Int) (g h0 s e : Int) : Prop := (h0 ≤ e ∧ e ≤ 600) ∧ (∀ j, h0 ≤ j → j < e → sumR N g h0 (j - h0).toNat < s) ∧ (e < 600 → s ≤ sumR N g h0 (e - h0).toNat)
theorem EndAt_u {N : Int → Int} {g h0 s e e' : Int} (h : EndAt N g h0 s e) (h' : EndAt N g h0 s e') : e = e' := by
  obtain ⟨a1, a2, a3⟩ := h
  obtain ⟨b1, b2, b3⟩ := h'
  by_cases c : e < e'
  · have := b2 e a1.1 c
    have := a3 (by omega)
    omega
  · by_cases c2 : e' < e
    · have := a2 e' b1.1 c2
      have := b3 (by omega)
      omega
    · omega
theorem C_endFrom {S : Nat → Nat × Nat} {Q : Nat → Int → Int} {w : Nat → Nat → Int64} {rf : Nat → Nat → Option Nat} {N : Int → Int} {g h0 s : Int} (hS : SCok S) (hr : RCok rf) (wl : WFL N) (fo : FO N g Q) (hg : 0 ≤ g ∧ g < 4) (hh : N 102 ≤ h0 ∧ h0 ≤ 600) (hs : 0 ≤ s ∧ s ≤ 250) : ∃ e, fX1_endFrom S (mk Q w rf) 186 (I h0) (I s) = some (I e) ∧ EndAt N g h0 s e := by
  have hb := wl.1
  obtain ⟨r, h1, e, h2, h3⟩ := loop_inv (f := fX1_endFrom_L9 S (mk Q w rf) 186) (m := 1000) (s := (I s, I h0)) (fun k t => t = (I (s - sumR N g h0 k), I (h0 + k)) ∧ h0 + k ≤ 600 ∧ ∀ j, h0 ≤ j → j < h0 + k → sumR N g h0 (j - h0).toNat < s) (fun r => ∃ e, (cs2 (fun v3 => some v3) (fun (_ : Unit) => some (600 : Int32))) r = some (I e) ∧ EndAt N g h0 s e) (600 - h0).toNat (by omega) ⟨by simp [sumR], by omega, fun j h1 h2 => by omega⟩ (by
      intro k t hk ⟨ht, hk1, hj⟩
      subst ht
      have h5 : ¬ (600 ≤ h0 + (k : Int)) := by omega
      have hsr := sumR_r (h := h0) wl hg k
      obtain ⟨er, -⟩ := fo.2 (h0 + k) (by omega) (by omega)
      by_cases q : 0 < s - sumR N g h0 k
      · left
        refine ⟨(I (s - sumR N g h0 (k + 1)), I (h0 + ((k + 1 : Nat) : Int))), ?_, rfl, by omega, ?_⟩
        · simp (disch := first | assumption | omega) only [fX1_endFrom_L9, I_lit, orb_I, I_add, I_sub, I_mul, I_neg, nm_eq, bd0_s, bd2_s, un2_eq, un3_eq, un4_eq, un5_eq, un6_eq, cs2_l, cs2_r, mk_1, mk_2, wI_mk, wL_mk, wR_mk, setR_same, setR_setR, rZ_0, rZ_1, rZ_b2, it_b2, it_nb2, it_b21, it_nb21, I_lt, I_le, I_eq, I_div, castI, if_true, if_false, Classical.not_not, h5, q, gC186_2, ldC187, er]
          simp only [sumR]
          congr 3
          · congr 1
            omega
          · congr 1
            omega
        · intro j h1 h2
          by_cases e : j = h0 + k
          · have : (j - h0).toNat = k := by omega
            rw [this]; omega
          · exact hj j h1 (by omega)
      · right
        refine ⟨.inl (I (h0 + k)), ?_, h0 + k, rfl, ⟨by omega, by omega⟩, hj, fun _ => ?_⟩
        · simp (disch := first | assumption | omega) only [fX1_endFrom_L9, I_lit, orb_I, I_add, I_sub, I_mul, I_neg, nm_eq, bd0_s, bd2_s, un2_eq, un3_eq, un4_eq, un5_eq, un6_eq, cs2_l, cs2_r, mk_1, mk_2, wI_mk, wL_mk, wR_mk, setR_same, setR_setR, rZ_0, rZ_1, rZ_b2, it_b2, it_nb2, it_b21, it_nb21, I_lt, I_le, I_eq, I_div, castI, if_true, if_false, Classical.not_not, h5, q]
        · have : (h0 + (k : Int) - h0).toNat = k := by omega
          rw [this]; omega) (by
      intro t ⟨ht, hk1, hj⟩
      subst ht
      have h5 : (600 ≤ h0 + ((600 - h0).toNat : Int)) := by omega
      refine ⟨.inr (), ?_, 600, rfl, ⟨by omega, by omega⟩, fun j h1 h2 => hj j h1 (by omega), fun h => by omega⟩
      simp (disch := first | assumption | omega) only [fX1_endFrom_L9, I_lit, orb_I, I_add, I_sub, I_mul, I_neg, nm_eq, bd0_s, bd2_s, un2_eq, un3_eq, un4_eq, un5_eq, un6_eq, cs2_l, cs2_r, mk_1, mk_2, wI_mk, wL_mk, wR_mk, setR_same, setR_setR, rZ_0, rZ_1, rZ_b2, it_b2, it_nb2, it_b21, it_nb21, I_lt, I_le, I_eq, I_div, castI, if_true, if_false, Classical.not_not, h5])
  refine ⟨e, ?_, h3⟩
  have em : max 0 h0 = h0 := by omega
  simp (disch := first | assumption | omega) only [fX1_endFrom, I_lit, orb_I, I_add, I_sub, I_mul, I_neg, nm_eq, bd0_s, bd2_s, un2_eq, un3_eq, un4_eq, un5_eq, un6_eq, cs2_l, cs2_r, mk_1, mk_2, wI_mk, wL_mk, wR_mk, setR_same, setR_setR, rZ_0, rZ_1, rZ_b2, it_b2, it_nb2, it_b21, it_nb21, I_lt, I_le, I_eq, I_div, castI, if_true, if_false, Classical.not_not, mxI_I, em, h1]
  exact h2
theorem M_endsBy {S : Nat → Nat × Nat} {R : Nat → Int → Int} {w : Nat → Nat → Int64} {rf : Nat → Nat → Option Nat} {g s : Int} (hS : SMok S) (hr : RMok rf) (wf : WFP (R 66)) (wl : WFL (R 66)) (hg : 0 ≤ g ∧ g < 4) (hs : 0 ≤ s ∧ s ≤ 250) : ∃ e, fX13_endsBy S (mk R w rf) 64 (I g) (I s) = some (I (ii (e = 600) (-1) e)) ∧ EndAt (R 66) g (R 66 102) s e := by
  have hb := wl.1
  obtain ⟨r, h1, e, h2, h3⟩ := loop_inv (f := fX13_endsBy_L11 S (mk R w rf) 64 (I g)) (m := 1000) (s := (I s, I (R 66 102))) (fun k t => t = (I (max 0 (s - sumR (R 66) g (R 66 102) k)), I (R 66 102 + k)) ∧ R 66 102 + k ≤ 600 ∧ ∀ j, R 66 102 ≤ j → j < R 66 102 + k → sumR (R 66) g (R 66 102) (j - R 66 102).toNat < s) (fun r => ∃ e, (cs2 (fun v4 => some v4) (fun (_ : Unit) => some (-1 : Int32))) r = some (I (ii (e = 600) (-1) e)) ∧ EndAt (R 66) g (R 66 102) s e) (600 - R 66 102).toNat (by omega) ⟨by simp only [sumR]; congr 2 <;> omega, by omega, fun j h1 h2 => by omega⟩ (by
      intro k t hk ⟨ht, hk1, hj⟩
      subst ht
      have h5 : ¬ (600 ≤ R 66 102 + (k : Int)) := by omega
      have hsr := sumR_r (h := R 66 102) wl hg k
      have hrr := runA_r (h := R 66 102 + k) wl hg
      have er := M_runs (w := w) hS hr wf wl hg (⟨by omega, by omega⟩ : -1 ≤ R 66 102 + (k : Int) ∧ R 66 102 + (k : Int) ≤ 600)
      by_cases q : max 0 (s - sumR (R 66) g (R 66 102) k) = 0
      · right
        refine ⟨.inl (I (R 66 102 + k)), ?_, R 66 102 + k, ?_, ⟨by omega, by omega⟩, hj, fun _ => ?_⟩
        · simp (disch := first | assumption | omega) only [fX13_endsBy_L11, I_lit, orb_I, I_add, I_sub, I_mul, I_neg, nm_eq, bd0_s, bd2_s, un2_eq, un3_eq, un4_eq, un5_eq, un6_eq, cs2_l, cs2_r, mk_1, mk_2, wI_mk, wL_mk, wR_mk, setR_same, setR_setR, rZ_0, rZ_1, rZ_b2, it_b2, it_nb2, it_b21, it_nb21, I_lt, I_le, I_eq, I_div, castI, if_true, if_false, Classical.not_not, h5, q, not_true]
        · rw [ii_f (by omega)]; rfl
        · have : (R 66 102 + (k : Int) - R 66 102).toNat = k := by omega
          rw [this]; omega
      · left
        refine ⟨(I (max 0 (s - sumR (R 66) g (R 66 102) (k + 1))), I (R 66 102 + ((k + 1 : Nat) : Int))), ?_, rfl, by omega, ?_⟩
        · simp (disch := first | assumption | omega) only [fX13_endsBy_L11, I_lit, orb_I, I_add, I_sub, I_mul, I_neg, nm_eq, bd0_s, bd2_s, un2_eq, un3_eq, un4_eq, un5_eq, un6_eq, cs2_l, cs2_r, mk_1, mk_2, wI_mk, wL_mk, wR_mk, setR_same, setR_setR, rZ_0, rZ_1, rZ_b2, it_b2, it_nb2, it_b21, it_nb21, I_lt, I_le, I_eq, I_div, castI, if_true, if_false, Classical.not_not, h5, q, not_false_eq_true, er, M_least]
          simp only [sumR]
          congr 3
          · congr 1
            omega
          · congr 1
            omega
        · intro j h1 h2
          by_cases e : j = R 66 102 + k
          · have : (j - R 66 102).toNat = k := by omega
            rw [this]; omega
          · exact hj j h1 (by omega)) (by
      intro t ⟨ht, hk1, hj⟩
      subst ht
      have h5 : (600 ≤ R 66 102 + ((600 - R 66 102).toNat : Int)) := by omega
      refine ⟨.inr (), ?_, 600, ?_, ⟨by omega, by omega⟩, fun j h1 h2 => hj j h1 (by omega), fun h => by omega⟩
      · simp (disch := first | assumption | omega) only [fX13_endsBy_L11, I_lit, orb_I, I_add, I_sub, I_mul, I_neg, nm_eq, bd0_s, bd2_s, un2_eq, un3_eq, un4_eq, un5_eq, un6_eq, cs2_l, cs2_r, mk_1, mk_2, wI_mk, wL_mk, wR_mk, setR_same, setR_setR, rZ_0, rZ_1, rZ_b2, it_b2, it_nb2, it_b21, it_nb21, I_lt, I_le, I_eq, I_div, castI, if_true, if_false, Classical.not_not, h5]
      · rw [ii_t rfl]; rfl)
  refine ⟨e, ?_, h3⟩
  simp (disch := first | assumption | omega) only [fX13_endsBy, I_lit, orb_I, I_add, I_sub, I_mul, I_neg, nm_eq, bd0_s, bd2_s, un2_eq, un3_eq, un4_eq, un5_eq, un6_eq, cs2_l, cs2_r, mk_1, mk_2, wI_mk, wL_mk, wR_mk, setR_same, setR_setR, rZ_0, rZ_1, rZ_b2, it_b2, it_nb2, it_b21, it_nb21, I_lt, I_le, I_eq, I_div, castI, if_true, if_false, Classical.not_not, gM14, ldM66, h1]
  exact h2
