def nx (z : Int) : Int := z * 1103515245 + 12345
def u8 (z : Int) : Int := ((I z).toUInt32 >>> ((I 8).toUInt32 &&& Int32.toUInt32 (I 31))).toInt32.toInt
theorem u8_I {z : Int} : ((I z).toUInt32 >>> ((I 8).toUInt32 &&& Int32.toUInt32 (I 31))).toInt32 = I (u8 z) := (I_of _).symm
theorem u8_r (z : Int) : 0 ≤ u8 z ∧ u8 z < 16777216 := by
  unfold u8
  generalize (I z).toUInt32 = x
  have e : ((I 8).toUInt32 &&& Int32.toUInt32 (I 31)) = 8 := by decide
  rw [e]
  have h : (x >>> 8).toNat < 16777216 := by
    rw [UInt32.toNat_shiftRight]
    have := UInt32.toNat_lt x
    have e2 : (8 : UInt32).toNat % 32 = 8 := by decide
    rw [e2, Nat.shiftRight_eq_div_pow]
    omega
  have h2 : (x >>> 8).toInt32.toInt = ((x >>> 8).toNat : Int) := by
    show (x >>> 8).toBitVec.toInt = _
    rw [BitVec.toInt_eq_toNat_of_lt (by
      show 2 * (x >>> 8).toNat < 2 ^ 32
      omega)]
    rfl
  rw [h2]
  omega
def dr (z m : Int) : Int := u8 z - u8 z / m * m
theorem dr_r {z m : Int} (hm : 0 < m) : 0 ≤ dr z m ∧ dr z m < m := by
  unfold dr
  have h1 := Int.emod_nonneg (u8 z) (by omega : m ≠ 0)
  have h2 := Int.emod_lt_of_pos (u8 z) hm
  have h3 := Int.emod_def (u8 z) m
  have h4 : m * (u8 z / m) = u8 z / m * m := Int.mul_comm _ _
  omega
theorem M_draw {S : Nat → Nat × Nat} {R : Nat → Int → Int} {w : Nat → Nat → Int64} {rf : Nat → Nat → Option Nat} {m : Int} (hm : 1 ≤ m ∧ m ≤ 30) : fX13_draw S (mk R w rf) 64 (I m) = some (I (dr (nx (R 64 33)) m), mk (setR R 64 (updf (R 64) 33 (nx (R 64 33)))) w rf) := by
  have h1 := u8_r (nx (R 64 33))
  have h2 : ¬ (m = 0) := by omega
  have e : R 64 33 * 1103515245 + 12345 = nx (R 64 33) := rfl
  simp (disch := first | assumption | omega) only [fX13_draw, I_lit, orb_I, I_add, I_sub, I_mul, I_neg, nm_eq, bd0_s, bd2_s, un2_eq, un3_eq, un4_eq, un5_eq, un6_eq, cs2_l, cs2_r, mk_1, mk_2, wI_mk, wL_mk, wR_mk, setR_same, setR_setR, rZ_0, rZ_1, rZ_b2, it_b2, it_nb2, it_b21, it_nb21, I_lt, I_le, I_eq, I_div, castI, if_true, if_false, Classical.not_not, nz, e, updf_same, u8_I, h2]
  rfl
noncomputable def tryA (N : Int → Int) (a who n : Int) : Int → Int := ii (whyA N a who n = 0) (liveA N a who n) N
theorem why_r {N : Int → Int} {a who n : Int} : 0 ≤ whyA N a who n ∧ whyA N a who n ≤ 4 := by
  unfold whyA why0 why1 why2 why3 why4 why5
  unfold ii
  (repeat' split) <;> omega
theorem M_tryTo {S : Nat → Nat × Nat} {R : Nat → Int → Int} {w : Nat → Nat → Int64} {rf : Nat → Nat → Option Nat} {a who n : Int} (hS : SMok S) (hr : RMok rf) (wf : WFP (R 66)) (wl : WFL (R 66)) (ok : okA (R 66) a who n) : fX13_tryTo S (mk R w rf) 64 (I a) (I who) (I n) = some (mk (setR R 66 (tryA (R 66) a who n)) w rf) := by
  have hr2 := why_r (N := R 66) (a := a) (who := who) (n := n)
  unfold tryA
  by_cases hy : whyA (R 66) a who n = 0
  · rw [ii_t hy]
    simp (disch := first | assumption | omega) only [fX13_tryTo, fX13_tryTo_b17, I_lit, orb_I, I_add, I_sub, I_mul, I_neg, nm_eq, bd0_s, bd2_s, un2_eq, un3_eq, un4_eq, un5_eq, un6_eq, cs2_l, cs2_r, mk_1, mk_2, wI_mk, wL_mk, wR_mk, setR_same, setR_setR, rZ_0, rZ_1, rZ_b2, it_b2, it_nb2, it_b21, it_nb21, I_lt, I_le, I_eq, I_div, castI, if_true, if_false, Classical.not_not, M_why hS hr wf wl ok, hy, not_true, M_live hS hr wf wl ok hy]
  · rw [ii_f hy, setR_id]
    simp (disch := first | assumption | omega) only [fX13_tryTo, fX13_tryTo_b17, I_lit, orb_I, I_add, I_sub, I_mul, I_neg, nm_eq, bd0_s, bd2_s, un2_eq, un3_eq, un4_eq, un5_eq, un6_eq, cs2_l, cs2_r, mk_1, mk_2, wI_mk, wL_mk, wR_mk, setR_same, setR_setR, rZ_0, rZ_1, rZ_b2, it_b2, it_nb2, it_b21, it_nb21, I_lt, I_le, I_eq, I_div, castI, if_true, if_false, Classical.not_not, M_why hS hr wf wl ok, hy, not_false_eq_true]
theorem C_doIfCan {S : Nat → Nat × Nat} {Q : Nat → Int → Int} {w : Nat → Nat → Int64} {rf : Nat → Nat → Option Nat} {N : Int → Int} {l : Nat} {a who n : Int} (hS : SCok S) (hr : RCok rf) (hl : isLife l) (wf : WFP N) (wl : WFL N) (cp : CP 67 Q N) (cl : CL l Q N) (ok : okA N a who n) : ∃ Q', fX3_doIfCan S (mk Q w rf) l (I a) (I who) (I n) = some (mk Q' w rf) ∧ CL l Q' (tryA N a who n) ∧ FrL l Q Q' := by
  have hr2 := why_r (N := N) (a := a) (who := who) (n := n)
  have h1 := C_whyNot (w := w) hS hr hl wf wl cp cl ok
  unfold tryA
  by_cases hy : whyA N a who n = 0
  · rw [ii_t hy]
    obtain ⟨Q', c1, c2, c3⟩ := C_carryOut (w := w) hS hr hl wf wl cp cl ok hy
    refine ⟨Q', ?_, c2, c3⟩
    simp (disch := first | assumption | omega) only [fX3_doIfCan, fX3_doIfCan_b17, I_lit, orb_I, I_add, I_sub, I_mul, I_neg, nm_eq, bd0_s, bd2_s, un2_eq, un3_eq, un4_eq, un5_eq, un6_eq, cs2_l, cs2_r, mk_1, mk_2, wI_mk, wL_mk, wR_mk, setR_same, setR_setR, rZ_0, rZ_1, rZ_b2, it_b2, it_nb2, it_b21, it_nb21, I_lt, I_le, I_eq, I_div, castI, if_true, if_false, Classical.not_not, h1, hy, not_true, c1]
  · rw [ii_f hy]
    refine ⟨Q, ?_, cl, FrL_refl l Q⟩
    simp (disch := first | assumption | omega) only [fX3_doIfCan, fX3_doIfCan_b17, I_lit, orb_I, I_add, I_sub, I_mul, I_neg, nm_eq, bd0_s, bd2_s, un2_eq, un3_eq, un4_eq, un5_eq, un6_eq, cs2_l, cs2_r, mk_1, mk_2, wI_mk, wL_mk, wR_mk, setR_same, setR_setR, rZ_0, rZ_1, rZ_b2, it_b2, it_nb2, it_b21, it_nb21, I_lt, I_le, I_eq, I_div, castI, if_true, if_false, Classical.not_not, h1, hy, not_false_eq_true]
def GD (N M : Int → Int) : Prop := AgP N M ∧ LOK M ∧ AgS N M ∧ M 102 = N 102
theorem live_102 {N : Int → Int} {a who n : Int} (wf : WFP N) (ok : okA N a who n) (hy : whyA N a who n = 0) : liveA N a who n 102 = N 102 := by
  obtain ⟨o1, o2, o3, o4, -⟩ := ok
  unfold liveA
  by_cases a0 : a = 0
  · rw [ii_t a0]
    have h1 := (why_wed hy (by omega)).1
    have hp := o2 (by omega)
    unfold turnA
    simp (disch := omega) only [updf_ne]
  rw [ii_f a0]
  by_cases a1 : a = 1
  · rw [ii_t a1, updf_ne (by omega)]
  rw [ii_f a1]
  by_cases a2 : a = 2
  · rw [ii_t a2]
    have ho := othA_r wf (o2 (by omega)) (why_wed hy (by omega)).1
    rw [updf_ne (by omega)]
  rw [ii_f a2]
  have hp := o3 (by omega)
  by_cases a3 : a = 3
  · rw [ii_t a3, updf_ne (by omega)]
  rw [ii_f a3]
  by_cases a4 : a = 4
  · rw [ii_t a4, updf_ne (by omega)]
  rw [ii_f a4, updf_ne (by omega)]
theorem GD_wf {N M : Int → Int} (wf : WFP N) (h : GD N M) : WFP M := WFP_ag wf h.1
theorem GD_try {N M : Int → Int} {a who n : Int} (wf : WFP N) (h : GD N M) (ok : okA M a who n) : GD N (tryA M a who n) := by
  have wf' := GD_wf wf h
  unfold tryA
  by_cases hy : whyA M a who n = 0
  · rw [ii_t hy]
    exact ⟨AgP_trans h.1 (AgP_live wf' ok hy), ⟨WFL_live wf' h.2.1.1 ok hy, WFW_live wf' h.2.1.1 h.2.1.2 ok hy⟩, AgS_trans h.2.2.1 (AgS_live wf' ok hy), (live_102 wf' ok hy).trans h.2.2.2⟩
  · rw [ii_f hy]; exact h
noncomputable def pD (s : (Int → Int) × Int) (p : Int) : (Int → Int) × Int := ii (dr (nx s.2) 12 = 0) (tryA s.1 2 p (dr (nx (nx s.2)) 10 + 1), nx (nx s.2)) (ii (dr (nx s.2) 12 = 1) (tryA s.1 0 p 0, nx s.2) (ii (dr (nx s.2) 12 = 2) (tryA s.1 1 p 0, nx s.2) (s.1, nx s.2)))
noncomputable def gD (s : (Int → Int) × Int) (g : Int) : (Int → Int) × Int := ii (dr (nx s.2) 30 = 0) (tryA s.1 5 g (dr (nx (nx s.2)) 20 + 1), nx (nx s.2)) (s.1, nx s.2)
noncomputable def pDs (s : (Int → Int) × Int) : Nat → (Int → Int) × Int
  | 0 => s
  | k + 1 => pD (pDs s k) k
noncomputable def gDs (s : (Int → Int) × Int) : Nat → (Int → Int) × Int
  | 0 => s
  | k + 1 => gD (gDs s k) k
noncomputable def hD (s : (Int → Int) × Int) : (Int → Int) × Int := (hourA (gDs (pDs s (s.1 0).toNat) (s.1 1).toNat).1, (gDs (pDs s (s.1 0).toNat) (s.1 1).toNat).2)
noncomputable def hDs (s : (Int → Int) × Int) : Nat → (Int → Int) × Int
  | 0 => s
  | k + 1 => hD (hDs s k)
theorem GD_pD {N : Int → Int} {s : (Int → Int) × Int} {p : Int} (wf : WFP N) (h : GD N s.1) (hp : 0 ≤ p ∧ p < N 0) : GD N (pD s p).1 := by
  have e0 := h.1 0 (by omega)
  have hd := dr_r (z := nx (nx s.2)) (m := 10) (by omega)
  unfold pD ii
  (repeat' split)
  · exact GD_try wf h (by unfold okA; omega)
  · exact GD_try wf h (by unfold okA; omega)
  · exact GD_try wf h (by unfold okA; omega)
  · exact h
theorem GD_gD {N : Int → Int} {s : (Int → Int) × Int} {p : Int} (wf : WFP N) (h : GD N s.1) (hp : 0 ≤ p ∧ p < N 1) : GD N (gD s p).1 := by
  have e0 := h.1 1 (by omega)
  have hd := dr_r (z := nx (nx s.2)) (m := 20) (by omega)
  unfold gD ii
  split
  · exact GD_try wf h (by unfold okA; omega)
  · exact h
theorem GD_pDs {N : Int → Int} {s : (Int → Int) × Int} (wf : WFP N) (h : GD N s.1) (k : Nat) (hk : (k : Int) ≤ N 0) : GD N (pDs s k).1 := by
  induction k with
  | zero => exact h
  | succ k ih => exact GD_pD wf (ih (by omega)) (by omega)
theorem GD_gDs {N : Int → Int} {s : (Int → Int) × Int} (wf : WFP N) (h : GD N s.1) (k : Nat) (hk : (k : Int) ≤ N 1) : GD N (gDs s k).1 := by
  induction k with
  | zero => exact h
  | succ k ih => exact GD_gD wf (ih (by omega)) (by omega)
def GH (N M : Int → Int) (k : Int) : Prop := AgP N M ∧ LOK M ∧ AgS N M ∧ M 102 = N 102 + k
theorem LOK_hour {N : Int → Int} (wf : WFP N) (lo : LOK N) (hh : N 102 < 600) : LOK (hourA N) := ⟨(OKL_hour wf ⟨AgP_refl N, lo.1, W8_of wf lo.2⟩ hh).1.2.1, WFW_hour wf lo.1 lo.2⟩
theorem GH_hD {N : Int → Int} {s : (Int → Int) × Int} {k : Int} (wf : WFP N) (h : GH N s.1 k) (hk : N 102 + k < 600) : GH N (hD s).1 (k + 1) := by
  have wf' := WFP_ag wf h.1
  have wn0 := wf'.1
  have wn1 := wf'.2.1
  have g0 : GD s.1 s.1 := ⟨AgP_refl _, h.2.1, AgS_refl _, rfl⟩
  have g1 := GD_pDs wf' g0 (s.1 0).toNat (by omega)
  have g2 := GD_gDs wf' g1 (s.1 1).toNat (by omega)
  have wf2 := GD_wf wf' g2
  have h4 := h.2.2.2
  have h5 := g2.2.2.2
  have o := OKL_hour (N := (gDs (pDs s (s.1 0).toNat) (s.1 1).toNat).1) (N' := (gDs (pDs s (s.1 0).toNat) (s.1 1).toNat).1) wf2 ⟨AgP_refl _, g2.2.1.1, W8_of wf2 g2.2.1.2⟩ (by omega)
  refine ⟨AgP_trans h.1 (AgP_trans g2.1 o.1.1), LOK_hour wf2 g2.2.1 (by omega), AgS_trans h.2.2.1 (AgS_trans g2.2.2.1 (AgS_hour wf2 g2.2.1.1 (W8_of wf2 g2.2.1.2))), ?_⟩
  show hourA _ 102 = _
  rw [o.2.1]
  omega
theorem GH_hDs {N : Int → Int} {z : Int} (wf : WFP N) (lo : LOK N) (k : Nat) (hk : N 102 + k ≤ 600) : GH N (hDs (N, z) k).1 k := by
  induction k with
  | zero => exact ⟨AgP_refl N, lo, AgS_refl N, by simp [hDs]⟩
  | succ k ih =>
    have := GH_hD wf (ih (by omega)) (by omega)
    have e : ((k + 1 : Nat) : Int) = (k : Int) + 1 := by omega
    rw [e]
    exact this
def DR (R : Nat → Int → Int) (s : (Int → Int) × Int) : Nat → Int → Int := setR (setR R 66 s.1) 64 (updf (R 64) 33 s.2)
theorem DR_66 {R : Nat → Int → Int} {s : (Int → Int) × Int} : DR R s 66 = s.1 := by
  unfold DR
  rw [setR_ne (by omega), setR_same]
theorem DR_33 {R : Nat → Int → Int} {s : (Int → Int) × Int} : DR R s 64 33 = s.2 := by
  unfold DR
  rw [setR_same, updf_same rfl]
theorem DR_set {R : Nat → Int → Int} {s : (Int → Int) × Int} {z : Int} : setR (DR R s) 64 (updf (DR R s 64) 33 z) = DR R (s.1, z) := by
  unfold DR
  rw [setR_setR, setR_same, updf_updf]
theorem DR_N {R : Nat → Int → Int} {s : (Int → Int) × Int} {M : Int → Int} : setR (DR R s) 66 M = DR R (M, s.2) := by
  unfold DR
  funext a
  by_cases h : a = 66
  · rw [h, setR_same, setR_ne (by omega), setR_same]
  · rw [setR_ne h]
    by_cases h2 : a = 64
    · rw [h2, setR_same, setR_same]
    · rw [setR_ne h2, setR_ne h2, setR_ne h, setR_ne h]
theorem M_pD {S : Nat → Nat × Nat} {R : Nat → Int → Int} {w : Nat → Nat → Int64} {rf : Nat → Nat → Option Nat} {s : (Int → Int) × Int} {p : Int} {x3 x4 : Int32} (hS : SMok S) (hr : RMok rf) (wf : WFP s.1) (lo : LOK s.1) (hp : 0 ≤ p ∧ p < s.1 0) : fX13_drawHours_L33 S 64 x3 x4 (I p, mk (DR R s) w rf) = some (.inl (I (p + 1), mk (DR R (pD s p)) w rf)) := by
  have wn0 := wf.1
  have h5 : ¬ (s.1 0 ≤ p) := by omega
  have d1 := M_draw (S := S) (R := DR R s) (w := w) (rf := rf) (m := 12) (by omega)
  rw [DR_33, DR_set] at d1
  have d2 := M_draw (S := S) (R := DR R (s.1, nx s.2)) (w := w) (rf := rf) (m := 10) (by omega)
  rw [DR_33, DR_set] at d2
  have r1 := dr_r (z := nx s.2) (m := 12) (by omega)
  have r2 := dr_r (z := nx (nx s.2)) (m := 10) (by omega)
  have t0 := M_tryTo (S := S) (R := DR R (s.1, nx s.2)) (w := w) (rf := rf) (a := 0) (who := p) (n := 0) hS hr (by rw [DR_66]; exact wf) (by rw [DR_66]; exact lo.1) (by rw [DR_66]; show okA s.1 _ _ _; unfold okA; omega)
  rw [DR_66, DR_N] at t0
  have t1 := M_tryTo (S := S) (R := DR R (s.1, nx s.2)) (w := w) (rf := rf) (a := 1) (who := p) (n := 0) hS hr (by rw [DR_66]; exact wf) (by rw [DR_66]; exact lo.1) (by rw [DR_66]; show okA s.1 _ _ _; unfold okA; omega)
  rw [DR_66, DR_N] at t1
  have t2 := M_tryTo (S := S) (R := DR R (s.1, nx (nx s.2))) (w := w) (rf := rf) (a := 2) (who := p) (n := 1 + dr (nx (nx s.2)) 10) hS hr (by rw [DR_66]; exact wf) (by rw [DR_66]; exact lo.1) (by rw [DR_66]; show okA s.1 _ _ _; unfold okA; omega)
  rw [DR_66, DR_N] at t2
  have e1 : 1 + dr (nx (nx s.2)) 10 = dr (nx (nx s.2)) 10 + 1 := Int.add_comm _ _
  simp (disch := first | assumption | omega) only [fX13_drawHours_L33, fX13_drawHours_b106, I_lit, orb_I, I_add, I_sub, I_mul, I_neg, nm_eq, bd0_s, bd2_s, un2_eq, un3_eq, un4_eq, un5_eq, un6_eq, cs2_l, cs2_r, mk_1, mk_2, wI_mk, wL_mk, wR_mk, setR_same, setR_setR, rZ_0, rZ_1, rZ_b2, it_b2, it_nb2, it_b21, it_nb21, I_lt, I_le, I_eq, I_div, castI, if_true, if_false, Classical.not_not, gM14, ldM66, DR_66, h5, d1, d2, t0, t1, t2]
  unfold pD
  by_cases q0 : dr (nx s.2) 12 = 0
  · rw [ii_t q0, if_neg (by omega), e1]
  · rw [ii_f q0, if_pos q0]
    by_cases q1 : dr (nx s.2) 12 = 1
    · rw [ii_t q1, if_neg (by omega)]
    · rw [ii_f q1, if_pos q1]
      by_cases q2 : dr (nx s.2) 12 = 2
      · rw [ii_t q2, if_neg (by omega)]
      · rw [ii_f q2, if_pos q2]
theorem M_gD {S : Nat → Nat × Nat} {R : Nat → Int → Int} {w : Nat → Nat → Int64} {rf : Nat → Nat → Option Nat} {s : (Int → Int) × Int} {p : Int} {x3 x4 : Int32} (hS : SMok S) (hr : RMok rf) (wf : WFP s.1) (lo : LOK s.1) (hp : 0 ≤ p ∧ p < s.1 1) : fX13_drawHours_L115 S 64 x3 x4 (I p, mk (DR R s) w rf) = some (.inl (I (p + 1), mk (DR R (gD s p)) w rf)) := by
  have wn0 := wf.2.1
  have h5 : ¬ (s.1 1 ≤ p) := by omega
  have d1 := M_draw (S := S) (R := DR R s) (w := w) (rf := rf) (m := 30) (by omega)
  rw [DR_33, DR_set] at d1
  have d2 := M_draw (S := S) (R := DR R (s.1, nx s.2)) (w := w) (rf := rf) (m := 20) (by omega)
  rw [DR_33, DR_set] at d2
  have r1 := dr_r (z := nx s.2) (m := 30) (by omega)
  have r2 := dr_r (z := nx (nx s.2)) (m := 20) (by omega)
  have t2 := M_tryTo (S := S) (R := DR R (s.1, nx (nx s.2))) (w := w) (rf := rf) (a := 5) (who := p) (n := 1 + dr (nx (nx s.2)) 20) hS hr (by rw [DR_66]; exact wf) (by rw [DR_66]; exact lo.1) (by rw [DR_66]; show okA s.1 _ _ _; unfold okA; omega)
  rw [DR_66, DR_N] at t2
  have e1 : 1 + dr (nx (nx s.2)) 20 = dr (nx (nx s.2)) 20 + 1 := Int.add_comm _ _
  simp (disch := first | assumption | omega) only [fX13_drawHours_L115, fX13_drawHours_b150, I_lit, orb_I, I_add, I_sub, I_mul, I_neg, nm_eq, bd0_s, bd2_s, un2_eq, un3_eq, un4_eq, un5_eq, un6_eq, cs2_l, cs2_r, mk_1, mk_2, wI_mk, wL_mk, wR_mk, setR_same, setR_setR, rZ_0, rZ_1, rZ_b2, it_b2, it_nb2, it_b21, it_nb21, I_lt, I_le, I_eq, I_div, castI, if_true, if_false, Classical.not_not, gM14, ldM66, DR_66, h5, d1, d2, t2]
  unfold gD
  by_cases q0 : dr (nx s.2) 30 = 0
  · rw [ii_t q0, if_neg (by omega), e1]
  · rw [ii_f q0, if_pos q0]
theorem M_hDs {S : Nat → Nat × Nat} {R : Nat → Int → Int} {w : Nat → Nat → Int64} {rf : Nat → Nat → Option Nat} {z n : Int} (hS : SMok S) (hr : RMok rf) (wf : WFP (R 66)) (lo : LOK (R 66)) (hn : 0 ≤ n ∧ n ≤ 600) : fX13_drawHours S (mk R w rf) 64 (I n) (I z) = some (I (min n (600 - R 66 102)), mk (DR R (hDs (R 66, z) (min n (600 - R 66 102)).toNat)) w rf) := by
  have hb := lo.1.1
  generalize hK : min n (600 - R 66 102) = K
  have l1 := loop_seq (f := fX13_drawHours_L24 S 64 (I K)) (m := 1000) (fun k => (I k, mk (DR R (hDs (R 66, z) k)) w rf)) K.toNat (r := mk (DR R (hDs (R 66, z) K.toNat)) w rf) (by omega) (by
    intro k hk
    have gh := GH_hDs (z := z) wf lo k (by omega)
    generalize hs : hDs (R 66, z) k = s at gh
    have e1 : hDs (R 66, z) (k + 1) = hD s := by rw [← hs]; rfl
    rw [e1]
    have wf1 := WFP_ag wf gh.1
    have wn0 := wf1.1
    have wn1 := wf1.2.1
    have h5 : ¬ (K ≤ (k : Int)) := by omega
    have g0 : GD s.1 s.1 := ⟨AgP_refl _, gh.2.1, AgS_refl _, rfl⟩
    have a1 := loop_seq (f := fX13_drawHours_L33 S 64 (I K) (I k)) (m := 1000) (fun j => (I j, mk (DR R (pDs s j)) w rf)) (s.1 0).toNat (r := mk (DR R (pDs s (s.1 0).toNat)) w rf) (by omega) (by
      intro j hj
      have gj := GD_pDs wf1 g0 j (by omega)
      exact M_pD hS hr (GD_wf wf1 gj) gj.2.1 (by rw [gj.1 0 (by omega)]; omega)) (by
      have gj := GD_pDs wf1 g0 (s.1 0).toNat (by omega)
      have e2 : (pDs s (s.1 0).toNat).1 0 = s.1 0 := gj.1 0 (by omega)
      have h6 : s.1 0 ≤ ((s.1 0).toNat : Int) := by omega
      simp (disch := first | assumption | omega) only [fX13_drawHours_L33, I_lit, orb_I, I_add, I_sub, I_mul, I_neg, nm_eq, bd0_s, bd2_s, un2_eq, un3_eq, un4_eq, un5_eq, un6_eq, cs2_l, cs2_r, mk_1, mk_2, wI_mk, wL_mk, wR_mk, setR_same, setR_setR, rZ_0, rZ_1, rZ_b2, it_b2, it_nb2, it_b21, it_nb21, I_lt, I_le, I_eq, I_div, castI, if_true, if_false, Classical.not_not, gM14, ldM66, DR_66, e2, h6])
    have a1' : loopN (fX13_drawHours_L33 S 64 (I K) (I k)) 1000 (I 0, mk (DR R s) w rf) = some (mk (DR R (pDs s (s.1 0).toNat)) w rf) := a1
    have g1 := GD_pDs wf1 g0 (s.1 0).toNat (by omega)
    generalize hs1 : pDs s (s.1 0).toNat = s1 at g1
    rw [hs1] at a1'
    have a2 := loop_seq (f := fX13_drawHours_L115 S 64 (I K) (I k)) (m := 1000) (fun j => (I j, mk (DR R (gDs s1 j)) w rf)) (s.1 1).toNat (r := mk (DR R (gDs s1 (s.1 1).toNat)) w rf) (by omega) (by
      intro j hj
      have gj := GD_gDs wf1 g1 j (by omega)
      exact M_gD hS hr (GD_wf wf1 gj) gj.2.1 (by rw [gj.1 1 (by omega)]; omega)) (by
      have gj := GD_gDs wf1 g1 (s.1 1).toNat (by omega)
      have e2 : (gDs s1 (s.1 1).toNat).1 1 = s.1 1 := gj.1 1 (by omega)
      have h6 : s.1 1 ≤ ((s.1 1).toNat : Int) := by omega
      simp (disch := first | assumption | omega) only [fX13_drawHours_L115, I_lit, orb_I, I_add, I_sub, I_mul, I_neg, nm_eq, bd0_s, bd2_s, un2_eq, un3_eq, un4_eq, un5_eq, un6_eq, cs2_l, cs2_r, mk_1, mk_2, wI_mk, wL_mk, wR_mk, setR_same, setR_setR, rZ_0, rZ_1, rZ_b2, it_b2, it_nb2, it_b21, it_nb21, I_lt, I_le, I_eq, I_div, castI, if_true, if_false, Classical.not_not, gM14, ldM66, DR_66, e2, h6])
    have a2' : loopN (fX13_drawHours_L115 S 64 (I K) (I k)) 1000 (I 0, mk (DR R s1) w rf) = some (mk (DR R (gDs s1 (s.1 1).toNat)) w rf) := a2
    have g2 := GD_gDs wf1 g1 (s.1 1).toNat (by omega)
    have e3 : hD s = (hourA (gDs s1 (s.1 1).toNat).1, (gDs s1 (s.1 1).toNat).2) := by rw [← hs1]; rfl
    rw [e3]
    generalize hs2 : gDs s1 (s.1 1).toNat = s2 at *
    have o := M_oneHour (S := S) (R := DR R s2) (w := w) hS hr (by rw [DR_66]; exact GD_wf wf1 g2) (by rw [DR_66]; exact g2.2.1.1) (by rw [DR_66]; exact W8_of (GD_wf wf1 g2) g2.2.1.2)
    rw [DR_66, DR_N] at o
    simp (disch := first | assumption | omega) only [fX13_drawHours_L24, I_lit, orb_I, I_add, I_sub, I_mul, I_neg, nm_eq, bd0_s, bd2_s, un2_eq, un3_eq, un4_eq, un5_eq, un6_eq, cs2_l, cs2_r, mk_1, mk_2, wI_mk, wL_mk, wR_mk, setR_same, setR_setR, rZ_0, rZ_1, rZ_b2, it_b2, it_nb2, it_b21, it_nb21, I_lt, I_le, I_eq, I_div, castI, if_true, if_false, Classical.not_not, h5, a1', a2', o]
    rfl) (by
    have h5 : (K ≤ (K.toNat : Int)) := by omega
    simp (disch := first | assumption | omega) only [fX13_drawHours_L24, I_lit, orb_I, I_add, I_sub, I_mul, I_neg, nm_eq, bd0_s, bd2_s, un2_eq, un3_eq, un4_eq, un5_eq, un6_eq, cs2_l, cs2_r, mk_1, mk_2, wI_mk, wL_mk, wR_mk, setR_same, setR_setR, rZ_0, rZ_1, rZ_b2, it_b2, it_nb2, it_b21, it_nb21, I_lt, I_le, I_eq, I_div, castI, if_true, if_false, Classical.not_not, h5])
  have e0 : (I ((0 : Nat) : Int), mk (DR R (hDs (R 66, z) 0)) w rf) = (I 0, mk (setR R 64 (updf (R 64) 33 z)) w rf) := by
    show (I 0, mk (setR (setR R 66 (R 66)) 64 _) w rf) = _
    rw [setR_id]
    rfl
  simp only [e0] at l1
  have h1 : fX13_least S (mk (setR R 64 (updf (R 64) 33 z)) w rf) (I n) (I (600 - R 66 102)) = some (I K) := by
    rw [M_least (by omega) (by omega), hK]
  simp (disch := first | assumption | omega) only [fX13_drawHours, I_lit, orb_I, I_add, I_sub, I_mul, I_neg, nm_eq, bd0_s, bd2_s, un2_eq, un3_eq, un4_eq, un5_eq, un6_eq, cs2_l, cs2_r, mk_1, mk_2, wI_mk, wL_mk, wR_mk, setR_same, setR_setR, rZ_0, rZ_1, rZ_b2, it_b2, it_nb2, it_b21, it_nb21, I_lt, I_le, I_eq, I_div, castI, if_true, if_false, Classical.not_not, gM14, ldM66, setR_ne, h1, l1]
theorem C_pD {S : Nat → Nat × Nat} {Q : Nat → Int → Int} {w : Nat → Nat → Int64} {rf : Nat → Nat → Option Nat} {N : Int → Int} {l : Nat} {p z : Int} (hS : SCok S) (hr : RCok rf) (hl : isLife l) (wf : WFP N) (lo : LOK N) (cp : CP 67 Q N) (cl : CL l Q N) (hp : 0 ≤ p ∧ p < N 0) : ∃ Q', fX3_drawForPerson S (mk Q w rf) l (I p) (I z) = some (I (pD (N, z) p).2, mk Q' w rf) ∧ CL l Q' (pD (N, z) p).1 ∧ FrL l Q Q' := by
  have wn0 := wf.1
  have u1 := u8_r (nx z)
  have u2 := u8_r (nx (nx z))
  have r1 := dr_r (z := nx z) (m := 12) (by omega)
  have r2 := dr_r (z := nx (nx z)) (m := 10) (by omega)
  have e1 : z * 1103515245 + 12345 = nx z := rfl
  have e2 : nx z * 1103515245 + 12345 = nx (nx z) := rfl
  have e3 : u8 (nx z) - u8 (nx z) / 12 * 12 = dr (nx z) 12 := rfl
  have e4 : u8 (nx (nx z)) - u8 (nx (nx z)) / 10 * 10 = dr (nx (nx z)) 10 := rfl
  obtain ⟨Q2, a1, a2, a3⟩ := C_doIfCan (S := S) (w := w) (a := 2) (who := p) (n := dr (nx (nx z)) 10 + 1) hS hr hl wf lo.1 cp cl (by unfold okA; omega)
  obtain ⟨Q0, b1, b2, b3⟩ := C_doIfCan (S := S) (w := w) (a := 0) (who := p) (n := 0) hS hr hl wf lo.1 cp cl (by unfold okA; omega)
  obtain ⟨Q1, c1, c2, c3⟩ := C_doIfCan (S := S) (w := w) (a := 1) (who := p) (n := 0) hS hr hl wf lo.1 cp cl (by unfold okA; omega)
  have main : fX3_drawForPerson S (mk Q w rf) l (I p) (I z) = if dr (nx z) 12 = 0 then some (I (nx (nx z)), mk Q2 w rf) else if dr (nx z) 12 = 1 then some (I (nx z), mk Q0 w rf) else if dr (nx z) 12 = 2 then some (I (nx z), mk Q1 w rf) else some (I (nx z), mk Q w rf) := by
    simp (disch := first | assumption | omega) only [fX3_drawForPerson, fX3_drawForPerson_b83, fX3_nextSeed, I_lit, orb_I, I_add, I_sub, I_mul, I_neg, nm_eq, bd0_s, bd2_s, un2_eq, un3_eq, un4_eq, un5_eq, un6_eq, cs2_l, cs2_r, mk_1, mk_2, wI_mk, wL_mk, wR_mk, setR_same, setR_setR, rZ_0, rZ_1, rZ_b2, it_b2, it_nb2, it_b21, it_nb21, I_lt, I_le, I_eq, I_div, castI, if_true, if_false, Classical.not_not, e1, e2, u8_I, e3, e4, a1, b1, c1]
  rw [main]
  unfold pD
  by_cases q0 : dr (nx z) 12 = 0
  · rw [if_pos q0]; simp only [ii_t q0]; exact ⟨Q2, rfl, a2, a3⟩
  rw [if_neg q0]; simp only [ii_f q0]
  by_cases q1 : dr (nx z) 12 = 1
  · rw [if_pos q1]; simp only [ii_t q1]; exact ⟨Q0, rfl, b2, b3⟩
  rw [if_neg q1]; simp only [ii_f q1]
  by_cases q2 : dr (nx z) 12 = 2
  · rw [if_pos q2]; simp only [ii_t q2]; exact ⟨Q1, rfl, c2, c3⟩
  rw [if_neg q2]; simp only [ii_f q2]
  exact ⟨Q, rfl, cl, FrL_refl l Q⟩
theorem C_gD {S : Nat → Nat × Nat} {Q : Nat → Int → Int} {w : Nat → Nat → Int64} {rf : Nat → Nat → Option Nat} {N : Int → Int} {l : Nat} {p z : Int} (hS : SCok S) (hr : RCok rf) (hl : isLife l) (wf : WFP N) (lo : LOK N) (cp : CP 67 Q N) (cl : CL l Q N) (hp : 0 ≤ p ∧ p < N 1) : ∃ Q', fX3_drawForGlass S (mk Q w rf) l (I p) (I z) = some (I (gD (N, z) p).2, mk Q' w rf) ∧ CL l Q' (gD (N, z) p).1 ∧ FrL l Q Q' := by
  have wn0 := wf.2.1
  have u1 := u8_r (nx z)
  have u2 := u8_r (nx (nx z))
  have r1 := dr_r (z := nx z) (m := 30) (by omega)
  have r2 := dr_r (z := nx (nx z)) (m := 20) (by omega)
  have e1 : z * 1103515245 + 12345 = nx z := rfl
  have e2 : nx z * 1103515245 + 12345 = nx (nx z) := rfl
  have e3 : u8 (nx z) - u8 (nx z) / 30 * 30 = dr (nx z) 30 := rfl
  have e4 : u8 (nx (nx z)) - u8 (nx (nx z)) / 20 * 20 = dr (nx (nx z)) 20 := rfl
  obtain ⟨Q2, a1, a2, a3⟩ := C_doIfCan (S := S) (w := w) (a := 5) (who := p) (n := dr (nx (nx z)) 20 + 1) hS hr hl wf lo.1 cp cl (by unfold okA; omega)
  have main : fX3_drawForGlass S (mk Q w rf) l (I p) (I z) = if ¬ dr (nx z) 30 = 0 then some (I (nx z), mk Q w rf) else some (I (nx (nx z)), mk Q2 w rf) := by
    simp (disch := first | assumption | omega) only [fX3_drawForGlass, fX3_drawForGlass_b35, fX3_nextSeed, I_lit, orb_I, I_add, I_sub, I_mul, I_neg, nm_eq, bd0_s, bd2_s, un2_eq, un3_eq, un4_eq, un5_eq, un6_eq, cs2_l, cs2_r, mk_1, mk_2, wI_mk, wL_mk, wR_mk, setR_same, setR_setR, rZ_0, rZ_1, rZ_b2, it_b2, it_nb2, it_b21, it_nb21, I_lt, I_le, I_eq, I_div, castI, if_true, if_false, Classical.not_not, e1, e2, u8_I, e3, e4, a1]
  rw [main]
  unfold gD
  by_cases q0 : dr (nx z) 30 = 0
  · rw [if_neg (by omega)]; simp only [ii_t q0]; exact ⟨Q2, rfl, a2, a3⟩
  rw [if_pos q0]; simp only [ii_f q0]
  exact ⟨Q, rfl, cl, FrL_refl l Q⟩
theorem C_hDs {S : Nat → Nat × Nat} {Q : Nat → Int → Int} {w : Nat → Nat → Int64} {rf : Nat → Nat → Option Nat} {N : Int → Int} {l : Nat} {n z : Int} (hS : SCok S) (hr : RCok rf) (hl : isLife l) (wf : WFP N) (lo : LOK N) (cp : CP 67 Q N) (cl : CL l Q N) (hn : 0 ≤ n ∧ n ≤ 600 - N 102) : ∃ Q', fX3_drawHours S (mk Q w rf) l (I n) (I z) = some (mk Q' w rf) ∧ CL l Q' (hDs (N, z) n.toNat).1 ∧ FrL l Q Q' := by
  have hb := lo.1.1
  obtain ⟨τ, h1, Q1, rfl, a1, a2⟩ := loop_inv (f := fX3_drawHours_L5 S l (I n)) (m := 1000) (s := (I z, (0 : Int32), mk Q w rf)) (fun k s => ∃ Q', s = (I (hDs (N, z) k).2, I k, mk Q' w rf) ∧ CL l Q' (hDs (N, z) k).1 ∧ FrL l Q Q') (fun r => ∃ Q', r = mk Q' w rf ∧ CL l Q' (hDs (N, z) n.toNat).1 ∧ FrL l Q Q') n.toNat (by omega) ⟨Q, rfl, cl, FrL_refl l Q⟩ (by
      intro k t hk ⟨Q', ht, b1, b2⟩
      subst ht
      left
      have gh := GH_hDs (z := z) wf lo k (by omega)
      have e1 : hDs (N, z) (k + 1) = hD (hDs (N, z) k) := rfl
      rw [e1]
      generalize hDs (N, z) k = s at *
      have wf1 := WFP_ag wf gh.1
      have cp1 := CP_fr cp wf hl b2 gh.1
      have wn0 := wf1.1
      have wn1 := wf1.2.1
      have h5 : ¬ (n ≤ (k : Int)) := by omega
      have g0 : GD s.1 s.1 := ⟨AgP_refl _, gh.2.1, AgS_refl _, rfl⟩
      obtain ⟨τ1, j1, Q2, rfl, j2, j3⟩ := loop_inv (f := fX3_drawHours_L14 S l (I n) (I k)) (m := 1000) (s := (I s.2, I 0, mk Q' w rf)) (fun j t => ∃ Q'', t = (I (pDs s j).2, I j, mk Q'' w rf) ∧ CL l Q'' (pDs s j).1 ∧ FrL l Q' Q'') (fun r => ∃ Q'', r = (I (pDs s (s.1 0).toNat).2, mk Q'' w rf) ∧ CL l Q'' (pDs s (s.1 0).toNat).1 ∧ FrL l Q' Q'') (s.1 0).toNat (by omega) ⟨Q', rfl, b1, FrL_refl l Q'⟩ (by
          intro j t hj ⟨Q'', ht, i1, i2⟩
          subst ht
          left
          have gj := GD_pDs wf1 g0 j (by omega)
          have e2 : (pDs s j).1 0 = s.1 0 := gj.1 0 (by omega)
          have cpj := CP_fr cp1 wf1 hl i2 gj.1
          obtain ⟨Q3, f1, f2, f3⟩ := C_pD (w := w) (p := j) (z := (pDs s j).2) hS hr hl (GD_wf wf1 gj) gj.2.1 cpj i1 (by omega)
          have h6 : ¬ (s.1 0 ≤ (j : Int)) := by omega
          have d0 := cpj.1.1
          refine ⟨(I (pDs s (j + 1)).2, I ((j + 1 : Nat) : Int), mk Q3 w rf), ?_, Q3, rfl, f2, FrL_trans i2 f3⟩
          simp (disch := first | assumption | omega) only [fX3_drawHours_L14, I_lit, orb_I, I_add, I_sub, I_mul, I_neg, nm_eq, bd0_s, bd2_s, un2_eq, un3_eq, un4_eq, un5_eq, un6_eq, cs2_l, cs2_r, mk_1, mk_2, wI_mk, wL_mk, wR_mk, setR_same, setR_setR, rZ_0, rZ_1, rZ_b2, it_b2, it_nb2, it_b21, it_nb21, I_lt, I_le, I_eq, I_div, castI, if_true, if_false, Classical.not_not, gL0, d0, e2, h6, f1]
          rfl) (by
          intro t ⟨Q'', ht, i1, i2⟩
          subst ht
          have gj := GD_pDs wf1 g0 (s.1 0).toNat (by omega)
          have e2 : (pDs s (s.1 0).toNat).1 0 = s.1 0 := gj.1 0 (by omega)
          have d0 := (CP_fr cp1 wf1 hl i2 gj.1).1.1
          have h6 : (s.1 0 ≤ ((s.1 0).toNat : Int)) := by omega
          refine ⟨_, ?_, Q'', rfl, i1, i2⟩
          simp (disch := first | assumption | omega) only [fX3_drawHours_L14, I_lit, orb_I, I_add, I_sub, I_mul, I_neg, nm_eq, bd0_s, bd2_s, un2_eq, un3_eq, un4_eq, un5_eq, un6_eq, cs2_l, cs2_r, mk_1, mk_2, wI_mk, wL_mk, wR_mk, setR_same, setR_setR, rZ_0, rZ_1, rZ_b2, it_b2, it_nb2, it_b21, it_nb21, I_lt, I_le, I_eq, I_div, castI, if_true, if_false, Classical.not_not, gL0, d0, e2, h6])
      have g1 := GD_pDs wf1 g0 (s.1 0).toNat (by omega)
      have e3 : hD s = (hourA (gDs (pDs s (s.1 0).toNat) (s.1 1).toNat).1, (gDs (pDs s (s.1 0).toNat) (s.1 1).toNat).2) := rfl
      rw [e3]
      generalize pDs s (s.1 0).toNat = s1 at *
      obtain ⟨τ2, j4, Q3, rfl, j5, j6⟩ := loop_inv (f := fX3_drawHours_L43 S l (I n) (I k)) (m := 1000) (s := (I s1.2, I 0, mk Q2 w rf)) (fun j t => ∃ Q'', t = (I (gDs s1 j).2, I j, mk Q'' w rf) ∧ CL l Q'' (gDs s1 j).1 ∧ FrL l Q' Q'') (fun r => ∃ Q'', r = (I (gDs s1 (s.1 1).toNat).2, mk Q'' w rf) ∧ CL l Q'' (gDs s1 (s.1 1).toNat).1 ∧ FrL l Q' Q'') (s.1 1).toNat (by omega) ⟨Q2, rfl, j2, j3⟩ (by
          intro j t hj ⟨Q'', ht, i1, i2⟩
          subst ht
          left
          have gj := GD_gDs wf1 g1 j (by omega)
          have e2 : (gDs s1 j).1 1 = s.1 1 := gj.1 1 (by omega)
          have cpj := CP_fr cp1 wf1 hl i2 gj.1
          obtain ⟨Q4, f1, f2, f3⟩ := C_gD (w := w) (p := j) (z := (gDs s1 j).2) hS hr hl (GD_wf wf1 gj) gj.2.1 cpj i1 (by omega)
          have h6 : ¬ (s.1 1 ≤ (j : Int)) := by omega
          have d0 := cpj.1.2.1
          refine ⟨(I (gDs s1 (j + 1)).2, I ((j + 1 : Nat) : Int), mk Q4 w rf), ?_, Q4, rfl, f2, FrL_trans i2 f3⟩
          simp (disch := first | assumption | omega) only [fX3_drawHours_L43, I_lit, orb_I, I_add, I_sub, I_mul, I_neg, nm_eq, bd0_s, bd2_s, un2_eq, un3_eq, un4_eq, un5_eq, un6_eq, cs2_l, cs2_r, mk_1, mk_2, wI_mk, wL_mk, wR_mk, setR_same, setR_setR, rZ_0, rZ_1, rZ_b2, it_b2, it_nb2, it_b21, it_nb21, I_lt, I_le, I_eq, I_div, castI, if_true, if_false, Classical.not_not, gL0, d0, e2, h6, f1]
          rfl) (by
          intro t ⟨Q'', ht, i1, i2⟩
          subst ht
          have gj := GD_gDs wf1 g1 (s.1 1).toNat (by omega)
          have e2 : (gDs s1 (s.1 1).toNat).1 1 = s.1 1 := gj.1 1 (by omega)
          have d0 := (CP_fr cp1 wf1 hl i2 gj.1).1.2.1
          have h6 : (s.1 1 ≤ ((s.1 1).toNat : Int)) := by omega
          refine ⟨_, ?_, Q'', rfl, i1, i2⟩
          simp (disch := first | assumption | omega) only [fX3_drawHours_L43, I_lit, orb_I, I_add, I_sub, I_mul, I_neg, nm_eq, bd0_s, bd2_s, un2_eq, un3_eq, un4_eq, un5_eq, un6_eq, cs2_l, cs2_r, mk_1, mk_2, wI_mk, wL_mk, wR_mk, setR_same, setR_setR, rZ_0, rZ_1, rZ_b2, it_b2, it_nb2, it_b21, it_nb21, I_lt, I_le, I_eq, I_div, castI, if_true, if_false, Classical.not_not, gL0, d0, e2, h6])
      have g2 := GD_gDs wf1 g1 (s.1 1).toNat (by omega)
      generalize gDs s1 (s.1 1).toNat = s2 at *
      have wf2 := GD_wf wf1 g2
      obtain ⟨Q5, o1, o2, o3⟩ := C_passHour (w := w) hS hr hl wf2 g2.2.1.1 (W8_of wf2 g2.2.1.2) (CP_fr cp1 wf1 hl j6 g2.1) j5
      refine ⟨(I s2.2, I ((k + 1 : Nat) : Int), mk Q5 w rf), ?_, Q5, rfl, o2, FrL_trans b2 (FrL_trans j6 o3)⟩
      simp (disch := first | assumption | omega) only [fX3_drawHours_L5, I_lit, orb_I, I_add, I_sub, I_mul, I_neg, nm_eq, bd0_s, bd2_s, un2_eq, un3_eq, un4_eq, un5_eq, un6_eq, cs2_l, cs2_r, mk_1, mk_2, wI_mk, wL_mk, wR_mk, setR_same, setR_setR, rZ_0, rZ_1, rZ_b2, it_b2, it_nb2, it_b21, it_nb21, I_lt, I_le, I_eq, I_div, castI, if_true, if_false, Classical.not_not, h5, j1, j4, o1]
      rfl) (by
      intro t ⟨Q', ht, b1, b2⟩
      subst ht
      have h5 : (n ≤ (n.toNat : Int)) := by omega
      refine ⟨mk Q' w rf, ?_, Q', rfl, b1, b2⟩
      simp (disch := first | assumption | omega) only [fX3_drawHours_L5, I_lit, orb_I, I_add, I_sub, I_mul, I_neg, nm_eq, bd0_s, bd2_s, un2_eq, un3_eq, un4_eq, un5_eq, un6_eq, cs2_l, cs2_r, mk_1, mk_2, wI_mk, wL_mk, wR_mk, setR_same, setR_setR, rZ_0, rZ_1, rZ_b2, it_b2, it_nb2, it_b21, it_nb21, I_lt, I_le, I_eq, I_div, castI, if_true, if_false, Classical.not_not, h5])
  refine ⟨Q1, ?_, a1, a2⟩
  simp only [fX3_drawHours, h1]
  rfl
