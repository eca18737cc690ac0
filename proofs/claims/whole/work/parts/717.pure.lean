theorem exI (x : Int32) : ∃ z, x = I z ∧ (-2147483648 ≤ z ∧ z < 2147483648) := ⟨x.toInt, (I_of x).symm, by have := Int32.le_toInt x; have := Int32.toInt_lt x; omega⟩
def OpC1 (f12 f13 : mm → Option (Int32 × mm)) : Prop := ∀ t σC σM, SimX t σC σM → ∃ r σC' σM', f12 σC = some (r, σC') ∧ f13 σM = some (r, σM') ∧ SimX t σC' σM'
def OpC0 (f12 : mm → Option Int32) (f13 : mm → Option (Int32 × mm)) : Prop := ∀ t σC σM, SimX t σC σM → ∃ r σM', f12 σC = some r ∧ f13 σM = some (r, σM') ∧ SimX t σC σM'
def th0 (R : Nat → Int → Int) : Nat → Int → Int := setR R 64 (updf (R 64) 0 0)
theorem th0_ne {R : Nat → Int → Int} {a : Nat} (h : a ≠ 64) : th0 R a = R a := setR_ne h
theorem th0_64 {R : Nat → Int → Int} {j : Int} (h : j ≠ 0) : th0 R 64 j = R 64 j := by
  unfold th0
  rw [setR_same, updf_ne h]
theorem INV_th {Q : Nat → Int → Int} {w : Nat → Nat → Int64} {rf : Nat → Nat → Option Nat} {R : Nat → Int → Int} {v : Nat → Nat → Int64} (inv : INV Q w rf R v) : INV Q w rf (th0 R) v :=
  INV_q inv (fun a h => rfl) rfl rfl (fun a h => th0_ne (by unfold KM at h; omega)) (fun j h => th0_64 (by unfold K64 at h; omega))
theorem th0_I {α : Type} {R : Nat → Int → Int} {v : Nat → Nat → Int64} {rm : Nat → Nat → Option Nat} {F : mm → Option α} : wI (mk R v rm) 64 0 (0 : Int32) F = F (mk (th0 R) v rm) := by
  rw [I_lit, wI_mk]
  rfl
theorem C_isFrom {S : Nat → Nat × Nat} {σ : mm} {v a b : Int} (hv : -2147483648 ≤ v ∧ v < 2147483648) (ha : -2147483648 ≤ a ∧ a < 2147483648) (hb : -2147483648 ≤ b ∧ b < 2147483648) : fX12_isFrom S σ (I a) (I b) (I v) = some (b2 (a ≤ v ∧ v ≤ b)) := by
  simp (disch := first | assumption | omega) only [fX12_isFrom, fX12_isFrom_b14, fX12_isFrom_b15, I_lit, orb_I, I_add, I_sub, I_mul, I_neg, nm_eq, bd0_s, bd2_s, un2_eq, un3_eq, un4_eq, un5_eq, un6_eq, cs2_l, cs2_r, mk_1, mk_2, wI_mk, wL_mk, wR_mk, setR_same, setR_setR, rZ_0, rZ_1, rZ_b2, it_b2, it_nb2, it_b21, it_nb21, I_lt, I_le, I_eq, I_div, castI, if_true, if_false, Classical.not_not]
  (repeat' split) <;> (first | exact sb_t (by omega) | exact sb_f (by omega))
theorem act_ok {S S' : Nat → Nat × Nat} {Q : Nat → Int → Int} {w : Nat → Nat → Int64} {rf : Nat → Nat → Option Nat} {R : Nat → Int → Int} {v : Nat → Nat → Int64} {rm : Nat → Nat → Option Nat} {a who n : Int} (hS : SCok S) (hS' : SMok S') (hr : RCok rf) (hr' : RMok rm) (inv : INV Q w rf R v) (ok : okA (R 66) a who n) : ∃ r Q' rf' R', fX12_attempt S (mk Q w rf) 64 (I a) (I who) (I n) = some (r, mk Q' w rf') ∧ fX13_act S' (mk R v rm) 64 (I a) (I who) (I n) = some (r, mk R' v rm) ∧ INV Q' w rf' R' v ∧ RCok rf' ∧ R' 64 32 = R 64 32 ∧ R' 78 = R 78 := by
  have inv' := inv
  obtain ⟨ta, ⟨wf, cp, nam⟩, ⟨lo, cl⟩, ur, fa, wk, ro, se, im, sw⟩ := inv
  have h1 := C_whyNot (w := w) hS hr isLife104 wf lo.1 cp cl ok
  have h2 := M_why (w := v) hS' hr' wf lo.1 ok
  by_cases hy : whyA (R 66) a who n = 0
  · rw [hy] at h1 h2
    have un := ur.2.1
    obtain ⟨Q1, rf1, k1, k2, k3, k4, k5⟩ := C_keep (w := w) hS hr wf cl lo ur
    have hr1 : RCok rf1 := RCok_of hr (fun a j h => k4 a j h.1)
    have cp1 : CP 67 Q1 (R 66) := CP_q cp (fun a h1 h2 => k3 a (by omega))
    obtain ⟨Q2, c1, c2, c3⟩ := C_carryOut (w := w) hS hr1 isLife104 wf lo.1 cp1 k5 ok hy
    have ms := M_snap (w := v) hS' hr' rfl un
    have ml := M_live (S := S') (w := v) (R := setR (setR R 69 (snS (R 69) (R 66) (R 64 23))) 64 (updf (R 64) 23 (snn (R 64 23)))) hS' hr' (by rw [setR_ne (by omega), setR_ne (by omega)]; exact wf) (by rw [setR_ne (by omega), setR_ne (by omega)]; exact lo.1) (by rw [setR_ne (by omega), setR_ne (by omega)]; exact ok) (by rw [setR_ne (by omega), setR_ne (by omega)]; exact hy)
    rw [setR_ne (a := 64) (b := 66) (by omega), setR_ne (a := 69) (b := 66) (by omega)] at ml
    have agP := AgP_live wf ok hy
    have agS := AgS_live wf ok hy
    have lo2 : LOK (liveA (R 66) a who n) := ⟨WFL_live wf lo.1 ok hy, WFW_live wf lo.1 lo.2 ok hy⟩
    have e : ∀ b, b < 104 ∨ (111 < b ∧ b < 120) ∨ 185 < b → Q2 b = Q b := fun b hb => by rw [c3 b (by omega), k3 b (by omega)]
    refine ⟨I 0, Q2, rf1, setR (setR (setR R 69 (snS (R 69) (R 66) (R 64 23))) 64 (updf (R 64) 23 (snn (R 64 23)))) 66 (liveA (R 66) a who n), ?_, ?_, ⟨?_, ⟨?_, ?_, ?_⟩, ⟨?_, ?_⟩, ?_, ?_, ?_, ?_, ?_, ?_, ?_⟩, hr1, ?_, ?_⟩
    · simp (disch := first | assumption | omega) only [fX12_attempt, fX12_attempt_b38, I_lit, orb_I, I_add, I_sub, I_mul, I_neg, nm_eq, bd0_s, bd2_s, un2_eq, un3_eq, un4_eq, un5_eq, un6_eq, cs2_l, cs2_r, mk_1, mk_2, wI_mk, wL_mk, wR_mk, setR_same, setR_setR, rZ_0, rZ_1, rZ_b2, it_b2, it_nb2, it_b21, it_nb21, I_lt, I_le, I_eq, I_div, castI, if_true, if_false, Classical.not_not, gC64_4, gC64_6, h1, k1, c1]
      rfl
    · simp (disch := first | assumption | omega) only [fX13_act, I_lit, orb_I, I_add, I_sub, I_mul, I_neg, nm_eq, bd0_s, bd2_s, un2_eq, un3_eq, un4_eq, un5_eq, un6_eq, cs2_l, cs2_r, mk_1, mk_2, wI_mk, wL_mk, wR_mk, setR_same, setR_setR, rZ_0, rZ_1, rZ_b2, it_b2, it_nb2, it_b21, it_nb21, I_lt, I_le, I_eq, I_div, castI, if_true, if_false, Classical.not_not, h2, ms, ml]
    · simp (disch := first | assumption | omega) only [setR_ne, setR_same, updf_ne, e 65 (by omega), e 66 (by omega)]; exact ta
    · rw [setR_same]; exact WFP_ag wf agP
    · rw [setR_same]; exact CP_fr cp1 wf isLife104 c3 agP
    · rw [setR_same]
      unfold namR
      rw [agP 0 (by omega), agP 1 (by omega), agP 2 (by omega)]
      exact nam
    · rw [setR_same]; exact lo2
    · rw [setR_same]; exact c2
    · simp (disch := first | assumption | omega) only [setR_ne, setR_same, updf_same]
      exact UR_q k2 wf (fun b hb => c3 b (by omega)) rfl agP
    · simp (disch := first | assumption | omega) only [setR_ne, setR_same, updf_ne, e 64 (by omega)]; exact fa
    · simp (disch := first | assumption | omega) only [setR_ne, setR_same, updf_ne, e 189 (by omega), e 192 (by omega)]; exact wk
    · simp (disch := first | assumption | omega) only [setR_ne, setR_same, updf_ne, e 193 (by omega)]; exact ro
    · simp (disch := first | assumption | omega) only [setR_same, e 197 (by omega), e 199 (by omega), e 200 (by omega)]
      have : rf1 198 = rf 198 := funext (fun j => k4 198 j (by omega))
      rw [this]
      exact senR_ag se agS
    · simp (disch := first | assumption | omega) only [setR_ne]
      exact imgR_q im (fun a h => e a (by omega)) (fun a h => rfl) (funext (fun j => k4 238 j (by omega))) (funext (fun j => k4 268 j (by omega)))
    · have e1 : rf1 198 = rf 198 := funext (fun j => k4 198 j (by omega))
      have e2 : rf1 202 = rf 202 := funext (fun j => k4 202 j (by omega))
      have e3 : rf1 238 = rf 238 := funext (fun j => k4 238 j (by omega))
      have e4 : rf1 268 = rf 268 := funext (fun j => k4 268 j (by omega))
      rw [e1, e2, e3, e4]; exact sw
    · simp (disch := first | assumption | omega) only [setR_ne, setR_same, updf_ne]
    · simp (disch := first | assumption | omega) only [setR_ne]
  · have hy2 : ¬ (I (whyA (R 66) a who n) = 0) := by
      have hr2 : 0 ≤ whyA (R 66) a who n ∧ whyA (R 66) a who n ≤ 4 := by
        unfold whyA why0 why1 why2 why3 why4 why5
        unfold ii
        (repeat' split) <;> omega
      simp (disch := first | assumption | omega) only [I_lit, orb_I, I_add, I_sub, I_mul, I_neg, nm_eq, bd0_s, bd2_s, un2_eq, un3_eq, un4_eq, un5_eq, un6_eq, cs2_l, cs2_r, mk_1, mk_2, wI_mk, wL_mk, wR_mk, setR_same, setR_setR, rZ_0, rZ_1, rZ_b2, it_b2, it_nb2, it_b21, it_nb21, I_lt, I_le, I_eq, I_div, castI, if_true, if_false, Classical.not_not]
      exact hy
    refine ⟨I (whyA (R 66) a who n), Q, rf, R, ?_, ?_, inv', hr, rfl, rfl⟩
    · simp only [fX12_attempt, fX12_attempt_b38, gC64_4 hr, h1, bd0_s, if_pos hy2]
    · simp only [fX13_act, h2, bd0_s, if_neg hy2]
