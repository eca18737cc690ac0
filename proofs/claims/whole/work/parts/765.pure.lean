theorem FCr_5 {Q Q' : Nat → Int → Int} {w w' : Nat → Nat → Int64} {rf rf' : Nat → Nat → Option Nat} {x : Int} (h : FCr Q Q' w w' rf rf') : FCr Q (setR Q' 193 (updf (Q' 193) 5 x)) w w' rf rf' := ⟨fun b y z u => by rw [setR_ne z]; exact h.1 b y z u, fun j hj => by rw [setR_same, updf_ne hj]; exact h.2.1 j hj, h.2.2⟩
theorem FMr_36 {R R' : Nat → Int → Int} {v v' : Nat → Nat → Int64} {x : Int} (h : FMr R R' v v') : FMr R (setR R' 64 (updf (R' 64) 36 x)) v v' := ⟨fun a y z => by rw [setR_ne y]; exact h.1 a y z, fun j y z => by rw [setR_same, updf_ne z]; exact h.2.1 j y z, h.2.2⟩
theorem RLOOP {S S' : Nat → Nat × Nat} {rm : Nat → Nat → Option Nat} {n : Int} {x1 : Int32} (hS : SCok S) (hS' : SMok S') (hr' : RMok rm) : ∀ (d k : Nat) (Q : Nat → Int → Int) (w : Nat → Nat → Int64) (rf : Nat → Nat → Option Nat) (R : Nat → Int → Int) (v : Nat → Nat → Int64) (fC fM : Nat), k + d = 40 → d + 1 < fC → d + 1 < fM → RCok rf → SYN Q w rf R v n 400 → WFP (R 66) → CP 67 Q (R 66) → namR (w 68) (w 74) (w 81) (v 71) 0 (R 66) → Q 193 5 = k → R 64 36 = k → LNR Q R (R 66) k → ∃ Q1 w1 rf1 R1 v1, FCr Q Q1 w w1 rf rf1 ∧ FMr R R1 v v1 ∧ RCok rf1 ∧ ((∃ j : Nat, j ≤ 40 ∧ loopN (fX6_read_L22 S 193) fC (mk Q w rf) = some (.inr (mk Q1 w1 rf1)) ∧ loopN (fX13_roll_L30 S' 64 x1) fM (mk R v rm) = some (.inr (mk R1 v1 rm)) ∧ Q1 193 5 = j ∧ R1 64 36 = j ∧ LNR Q1 R1 (R 66) j ∧ Q1 65 9 = 0 ∧ R1 64 10 = 0) ∨ (loopN (fX6_read_L22 S 193) fC (mk Q w rf) = some (.inl (mk Q1 w1 rf1)) ∧ loopN (fX13_roll_L30 S' 64 x1) fM (mk R v rm) = some (.inl (mk R1 v1 rm)) ∧ FAIL Q1 R1)) := by
  intro d
  induction d using Nat.strongRecOn with
  | _ d ih =>
    intro k Q w rf R v fC fM hk hfC hfM hr sy wf cp nam hq hm ln
    obtain ⟨fC', rfl⟩ : ∃ f, fC = f + 1 := ⟨fC - 1, by omega⟩
    obtain ⟨fM', rfl⟩ : ∃ f, fM = f + 1 := ⟨fM - 1, by omega⟩
    have tk := TK_k sy.2
    have e4 : (mk Q w rf).1 65 4 = I (Q 65 4) := by rw [mk_1, castI]
    have e5 : (mk Q w rf).1 193 5 = I k := by rw [mk_1, castI, hq]
    have e7 : (mk R v rm).1 64 7 = I (R 64 7) := by rw [mk_1, castI]
    by_cases h0 : R 64 7 = 0
    · have h4 : Q 65 4 = 0 := tk.2.2.2.1.2 h0
      refine ⟨Q, w, rf, R, v, FCr_of fc_refl, FMr_of fm_refl, hr, Or.inl ⟨k, by omega, ?_, ?_, hq, hm, ln, sy.1.2.2.2.2.2.2.1, sy.1.2.2.2.2.2.2.2⟩⟩
      · refine loop_ex ?_
        simp only [fX6_read_L22, gC193_0 hr, e4, h4]
        rfl
      · refine loop_ex ?_
        simp only [fX13_roll_L30, e7, h0]
        rfl
    have hk9 : ¬ ((40 : Int32) < I (k : Int)) := by rw [I_lit, I_lt (by omega) (by omega)]; omega
    have n4 : ¬ (I (Q 65 4) = 0) := by
      rw [I_lit, I_eq (by omega) (by omega)]
      exact fun h => h0 (tk.2.2.2.1.1 h)
    have n7 : ¬ (I (R 64 7) = 0) := by
      rw [I_lit, I_eq (by omega) (by omega)]
      exact h0
    have cst : ∀ {o}, fX6_readLine S (mk Q w rf) 193 = o → fX6_read_L22 S 193 (mk Q w rf) = bd2 o fun v2 τ3 => if v2 = 0 then some (.inr (.inl τ3)) else gR τ3 193 0 fun r4 => bd2 (fX8_takeSemicolon S τ3 r4) fun v5 τ6 => if ¬ v5 = 0 then wI τ6 193 5 ((τ6.1 193 5) + (1 : Int32)) fun τ7 => gR τ7 193 0 fun r8 => bd0 (fX8_next S τ7 r8) fun τ9 => some (.inl τ9) else some (.inr (.inl τ6)) := by
      intro o ho
      simp only [fX6_read_L22, gC193_0 hr, e4, e5, if_neg n4, if_neg hk9, ho]
    have mst : ∀ {o}, fX13_readRollLine S' (mk R v rm) 64 = o → fX13_roll_L30 S' 64 x1 (mk R v rm) = bd2 o fun v1 τ2 => if ¬ v1 = 0 then wI τ2 64 36 ((τ2.1 64 36) + (1 : Int32)) fun τ3 => some (.inl τ3) else some (.inr (.inl τ2)) := by
      intro o ho
      simp only [fX13_roll_L30, e7, if_neg n7, ho]
    obtain ⟨Q1, w1, rf1, R1, v1, a1, a2, a3, a4⟩ := RLINE (S := S) (k := (k : Int)) hS hS' hr hr' sy h0 wf cp nam hq hm (by omega)
    rcases a4 with ⟨hk4, a, who, x, b0, l1, l2, b3, b4, b5, b6, b7, b8, b9⟩ | ⟨l1, l2, b3⟩
    · have c1 := cst l1
      have m1 := mst l2
      unfold rlEnd at m1
      rw [bd2_p, if_neg (by decide), gC193_0 a3] at c1
      obtain ⟨Q2, w2, rf2, R2, v2, s1, s2, s3, s4⟩ := SEM (S := S) (w := w1) hS hS' a3 hr' b3
      rcases s4 with ⟨t1, t2, t3, t4⟩ | ⟨t1, t2, t3⟩
      · rw [t1, bd2_p, if_pos (by decide)] at c1
        rw [t2, bd2_p, if_neg (by decide), bd2_p, if_pos (by decide)] at m1
        have q5 : (mk Q2 w2 rf2).1 193 5 = I k := by rw [mk_1, castI, s2.1 193 (by omega), b4.2.2.2, hq]
        have r36 : (mk R2 v2 rm).1 64 36 = I k := by rw [mk_1, castI, s3.2.1 36 (by omega), b9, hm]
        rw [q5, show (1 : Int32) = I 1 from rfl, I_add, wI_mk, castI, gC193_0 s1] at c1
        rw [r36, show (1 : Int32) = I 1 from rfl, I_add, wI_mk, castI] at m1
        generalize hq2 : setR Q2 193 (updf (Q2 193) 5 ((k : Int) + 1)) = Q2' at c1
        generalize hR2 : setR R2 64 (updf (R2 64) 36 ((k : Int) + 1)) = R2' at m1
        have q2o : ∀ b, b ≠ 193 → Q2' b = Q2 b := fun b hb => by rw [← hq2, setR_ne hb]
        have r2o : ∀ b, b ≠ 64 → R2' b = R2 b := fun b hb => by rw [← hR2, setR_ne hb]
        have r2j : ∀ j, j ≠ 36 → R2' 64 j = R2 64 j := fun j hj => by rw [← hR2, setR_same, updf_ne hj]
        have bh2 : BEH S' rm Q2' R2' v2 n 400 := BEH_q t3 (fun j _ _ => by rw [q2o 65 (by omega)]) (q2o 66 (by omega)) (fun j _ _ => r2j j (by omega)) (r2o 65 (by omega)) rfl
        obtain ⟨Q3, w3, rf3, d1, d2, d3, d4, d5⟩ := nextB (S := S) (w := w2) hS hS' s1 hr' bh2
        rw [d1, bd0_s] at c1
        have FC2 : FCr Q Q2' w w2 rf rf2 := by rw [← hq2]; exact FCr_5 (FCr_trans a1 (FCr_of s2))
        have FC3 : FCr Q Q3 w w3 rf rf3 := FCr_trans FC2 (FCr_of (fc_of d4))
        have FM2 : FMr R R2' v v2 := by rw [← hR2]; exact FMr_36 (FMr_trans a2 (FMr_of s3))
        have e66 : R2' 66 = R 66 := FM2.1 66 (by omega) (by omega)
        have rows : ∀ b, 194 ≤ b → b ≤ 196 → Q3 b = Q1 b := fun b h1 h2 => by rw [d4.1 b (by omega), q2o b (by omega), s2.1 b (by omega)]
        have r79 : R2' 79 = R1 79 := by rw [r2o 79 (by omega), s3.1 79 (by omega)]
        have ln3 : LNR Q3 R2' (R2' 66) ((k + 1 : Nat) : Int) := by
          intro i h1 h2
          rw [rows 194 (by omega) (by omega), rows 195 (by omega) (by omega), rows 196 (by omega) (by omega), r79, e66, b4.1, b4.2.1, b4.2.2.1]
          by_cases hi : i = k
          · rw [updf_same hi, updf_same hi, updf_same hi, hi]
            exact ⟨b0, b5, b6, b7⟩
          · rw [updf_ne hi, updf_ne hi, updf_ne hi, b8 _ (by omega), b8 _ (by omega), b8 _ (by omega)]
            exact ln i h1 (by omega)
        have w68 : w3 68 = w 68 := funext (fun j => FC3.2.2.1 68 j (by omega))
        have w74 : w3 74 = w 74 := funext (fun j => FC3.2.2.1 74 j (by omega))
        have w81 : w3 81 = w 81 := funext (fun j => FC3.2.2.1 81 j (by omega))
        have v71 : v2 71 = v 71 := funext (fun j => FM2.2.2 71 j (by omega))
        obtain ⟨Q4, w4, rf4, R4, v4, f1, f2, f3, f4⟩ := ih (d - 1) (by omega) (k + 1) Q3 w3 rf3 R2' v2 fC' fM' (by omega) (by omega) (by omega) d2 d3 (by rw [e66]; exact wf) (by rw [e66]; exact CP_q cp (fun b h1 h2 => FC3.1 b (by omega) (by omega) (by omega))) (by rw [e66, w68, w74, w81, v71]; exact nam) (by rw [d4.1 193 (by omega), ← hq2, setR_same, updf_same rfl]; rfl) (by rw [← hR2, setR_same, updf_same rfl]; rfl) ln3
        rw [loop_st c1, loop_st m1]
        rw [e66] at f4
        exact ⟨Q4, w4, rf4, R4, v4, FCr_trans FC3 f1, FMr_trans FM2 f2, f3, f4⟩
      · rw [t1, bd2_p, if_neg (by decide)] at c1
        rw [t2, bd2_p, if_pos rfl, bd2_p, if_neg (by decide)] at m1
        exact ⟨Q2, w2, rf2, R2, v2, FCr_trans a1 (FCr_of s2), FMr_trans a2 (FMr_of s3), s1, Or.inr ⟨loop_ex c1, loop_ex m1, t3⟩⟩
    · have c1 := cst l1
      have m1 := mst l2
      rw [bd2_p, if_pos rfl] at c1
      rw [bd2_p, if_neg (by decide)] at m1
      exact ⟨Q1, w1, rf1, R1, v1, a1, a2, a3, Or.inr ⟨loop_ex c1, loop_ex m1, b3⟩⟩
theorem okLn_ag {N N' : Int → Int} {a who x : Int} (h : okLn N a who x) (ag : AgP N N') : okLn N' a who x := by
  rcases h with ⟨h1, h2, h3, h4⟩ | h
  · exact Or.inl ⟨h1, fun h => by rw [ag 0 (by omega)]; exact h2 h, fun h => by rw [ag 1 (by omega)]; exact h3 h, h4⟩
  · exact Or.inr h
theorem C_whyNot6 {S : Nat → Nat × Nat} {Q : Nat → Int → Int} {w : Nat → Nat → Int64} {rf : Nat → Nat → Option Nat} {N : Int → Int} {l : Nat} {who n : Int} (hS : SCok S) (hr : RCok rf) (wl : WFL N) (cl : CL l Q N) (hn : 1 ≤ n ∧ n ≤ 60) : fX3_whyNot S (mk Q w rf) l (I 6) (I who) (I n) = some (I (ii (n ≤ 600 - N 102) 0 1)) := by
  have hb := wl.1
  obtain ⟨⟨c102, c104, c103⟩, clp, clg⟩ := cl
  simp (disch := first | assumption | omega) only [fX3_whyNot, fX3_whyNot_b149, I_lit, orb_I, I_add, I_sub, I_mul, I_neg, nm_eq, bd0_s, bd2_s, un2_eq, un3_eq, un4_eq, un5_eq, un6_eq, cs2_l, cs2_r, mk_1, mk_2, wI_mk, wL_mk, wR_mk, setR_same, setR_setR, rZ_0, rZ_1, rZ_b2, it_b2, it_nb2, it_b21, it_nb21, I_lt, I_le, I_eq, I_div, castI, if_true, if_false, Classical.not_not, Int.reduceEq, c102]
  by_cases h : n ≤ 600 - N 102
  · rw [ii_t h, if_pos h]
  · rw [ii_f h, if_neg h]
def FrJ (Q Q' : Nat → Int → Int) : Prop := (∀ a, ¬ (112 ≤ a ∧ a ≤ 119) → a ≠ 193 → Q' a = Q a) ∧ (∀ j, j ≠ 7 → j ≠ 8 → Q' 193 j = Q 193 j)
theorem JLOOP {S S' : Nat → Nat × Nat} {w v : Nat → Nat → Int64} {rf rm : Nat → Nat → Option Nat} {L : Int} {x1 : Int32} (hS : SCok S) (hS' : SMok S') (hr : RCok rf) (hr' : RMok rm) (hL : L ≤ 40) : ∀ (d k : Nat) (Q R : Nat → Int → Int) (fC fM : Nat), (k : Int) + d = L → d + 1 < fC → d + 1 < fM → Q 193 7 = 0 → Q 193 8 = k → Q 193 5 = L → R 64 36 = L → LNR Q R (R 66) L → WFP (R 66) → LOK (R 66) → CP 67 Q (R 66) → CL 112 Q (R 66) → ∃ (Q1 R1 : Nat → Int → Int) (k1 wv : Int), loopN (fX6_judge_L15 S 193 112) fC (mk Q w rf) = some (mk Q1 w rf) ∧ loopN (fX13_roll_L73 S' 64 x1) fM (I k, I 0, mk R v rm) = some (I k1, I wv, mk R1 v rm) ∧ (Q1 193 7 = wv ∧ Q1 193 8 = k1) ∧ (0 ≤ wv ∧ wv ≤ 100) ∧ (0 ≤ k1 ∧ k1 ≤ 40) ∧ CL 112 Q1 (R1 66) ∧ LOK (R1 66) ∧ AgP (R 66) (R1 66) ∧ AgS (R 66) (R1 66) ∧ FrJ Q Q1 ∧ (∀ a, a ≠ 66 → R1 a = R a) := by
  intro d
  induction d with
  | zero =>
    intro k Q R fC fM hk hfC hfM q7 q8 q5 r36 ln wf lo cp cl
    obtain ⟨fC', rfl⟩ : ∃ f, fC = f + 1 := ⟨fC - 1, by omega⟩
    obtain ⟨fM', rfl⟩ : ∃ f, fM = f + 1 := ⟨fM - 1, by omega⟩
    refine ⟨Q, R, k, 0, loop_ex ?_, loop_ex ?_, ⟨q7, q8⟩, by omega, by omega, cl, lo, AgP_refl _, AgS_refl _, ⟨fun _ _ _ => rfl, fun _ _ _ => rfl⟩, fun _ _ => rfl⟩
    · have h5 : L ≤ (k : Int) := by omega
      simp (disch := first | assumption | omega) only [fX6_judge_L15, I_lit, orb_I, I_add, I_sub, I_mul, I_neg, nm_eq, bd0_s, bd2_s, un2_eq, un3_eq, un4_eq, un5_eq, un6_eq, cs2_l, cs2_r, mk_1, mk_2, wI_mk, wL_mk, wR_mk, setR_same, setR_setR, rZ_0, rZ_1, rZ_b2, it_b2, it_nb2, it_b21, it_nb21, I_lt, I_le, I_eq, I_div, castI, if_true, if_false, Classical.not_not, q7, q8, q5, not_true, h5]
    · have h5 : L ≤ (k : Int) := by omega
      simp (disch := first | assumption | omega) only [fX13_roll_L73, I_lit, orb_I, I_add, I_sub, I_mul, I_neg, nm_eq, bd0_s, bd2_s, un2_eq, un3_eq, un4_eq, un5_eq, un6_eq, cs2_l, cs2_r, mk_1, mk_2, wI_mk, wL_mk, wR_mk, setR_same, setR_setR, rZ_0, rZ_1, rZ_b2, it_b2, it_nb2, it_b21, it_nb21, I_lt, I_le, I_eq, I_div, castI, if_true, if_false, Classical.not_not, r36, h5]
  | succ d ih =>
    intro k Q R fC fM hk hfC hfM q7 q8 q5 r36 ln wf lo cp cl
    obtain ⟨fC', rfl⟩ : ∃ f, fC = f + 1 := ⟨fC - 1, by omega⟩
    obtain ⟨fM', rfl⟩ : ∃ f, fM = f + 1 := ⟨fM - 1, by omega⟩
    have hb := lo.1.1
    have h5 : ¬ (L ≤ (k : Int)) := by omega
    have h40 : ¬ ((40 : Int) ≤ (k : Int)) := by omega
    obtain ⟨o1, o2, o3, o4⟩ := ln k (by omega) (by omega)
    have onext : ∀ (N1 : Int → Int) (Qn : Nat → Int → Int), AgP (R 66) N1 → AgS (R 66) N1 → LOK N1 → CL 112 Qn N1 → FrL 112 Q Qn → fX6_judge_L15 S 193 112 (mk Q w rf) = some (.inl (mk (setR Qn 193 (updf (Qn 193) 8 ((k : Int) + 1))) w rf)) → fX13_roll_L73 S' 64 x1 (I k, I 0, mk R v rm) = some (.inl (I ((k : Int) + 1), I 0, mk (setR R 66 N1) v rm)) → ∃ (Q1 R1 : Nat → Int → Int) (k1 wv : Int), loopN (fX6_judge_L15 S 193 112) (fC' + 1) (mk Q w rf) = some (mk Q1 w rf) ∧ loopN (fX13_roll_L73 S' 64 x1) (fM' + 1) (I k, I 0, mk R v rm) = some (I k1, I wv, mk R1 v rm) ∧ (Q1 193 7 = wv ∧ Q1 193 8 = k1) ∧ (0 ≤ wv ∧ wv ≤ 100) ∧ (0 ≤ k1 ∧ k1 ≤ 40) ∧ CL 112 Q1 (R1 66) ∧ LOK (R1 66) ∧ AgP (R 66) (R1 66) ∧ AgS (R 66) (R1 66) ∧ FrJ Q Q1 ∧ (∀ a, a ≠ 66 → R1 a = R a) := by
      intro N1 Qn ag as lo1 cl1 fr c1 m1
      generalize hQ' : setR Qn 193 (updf (Qn 193) 8 ((k : Int) + 1)) = Q' at c1
      generalize hR' : setR R 66 N1 = R' at m1
      have qo : ∀ a, a ≠ 193 → Q' a = Qn a := fun a ha => by rw [← hQ', setR_ne ha]
      have q193 : ∀ j, j ≠ 8 → Q' 193 j = Q 193 j := fun j hj => by rw [← hQ', setR_same, updf_ne hj, fr 193 (by omega)]
      have ro : ∀ a, a ≠ 66 → R' a = R a := fun a ha => by rw [← hR', setR_ne ha]
      have r66 : R' 66 = N1 := by rw [← hR', setR_same]
      have ln' : LNR Q' R' (R' 66) L := by
        intro i h1 h2
        rw [qo 194 (by omega), qo 195 (by omega), qo 196 (by omega), fr 194 (by omega), fr 195 (by omega), fr 196 (by omega), ro 79 (by omega), r66]
        obtain ⟨p1, p2⟩ := ln i h1 h2
        exact ⟨okLn_ag p1 ag, p2⟩
      have cp' : CP 67 Q' (R' 66) := by
        rw [r66]
        exact CP_q (CP_fr cp wf isLife112 fr ag) (fun a h1 h2 => qo a (by omega))
      obtain ⟨Q1, R1, k1, wv, i1, i2, i3, i4, i5, i6, i7, i8, i9, i10, i11⟩ := ih (k + 1) Q' R' fC' fM' (by omega) (by omega) (by omega) (by rw [q193 7 (by omega)]; exact q7) (by rw [← hQ', setR_same, updf_same rfl]; rfl) (by rw [q193 5 (by omega)]; exact q5) (by rw [ro 64 (by omega)]; exact r36) ln' (by rw [r66]; exact WFP_ag wf ag) (by rw [r66]; exact lo1) cp' (by rw [r66]; exact CL_q cl1 (fun a h1 h2 => qo a (by omega)))
      rw [loop_st c1, loop_st m1]
      rw [r66] at i8 i9
      refine ⟨Q1, R1, k1, wv, i1, i2, i3, i4, i5, i6, i7, AgP_trans ag i8, AgS_trans as i9, ⟨fun a h1 h2 => ?_, fun j h1 h2 => ?_⟩, fun a ha => ?_⟩
      · rw [i10.1 a h1 h2, qo a h2, fr a (by omega)]
      · rw [i10.2 j h1 h2, q193 j h2]
      · rw [i11 a ha, ro a ha]
    have ostop : ∀ (wv : Int), 0 < wv → wv ≤ 100 → fX6_judge_L15 S 193 112 (mk Q w rf) = some (.inl (mk (setR Q 193 (updf (Q 193) 7 wv)) w rf)) → fX13_roll_L73 S' 64 x1 (I k, I 0, mk R v rm) = some (.inl (I k, I wv, mk R v rm)) → ∃ (Q1 R1 : Nat → Int → Int) (k1 wv : Int), loopN (fX6_judge_L15 S 193 112) (fC' + 1) (mk Q w rf) = some (mk Q1 w rf) ∧ loopN (fX13_roll_L73 S' 64 x1) (fM' + 1) (I k, I 0, mk R v rm) = some (I k1, I wv, mk R1 v rm) ∧ (Q1 193 7 = wv ∧ Q1 193 8 = k1) ∧ (0 ≤ wv ∧ wv ≤ 100) ∧ (0 ≤ k1 ∧ k1 ≤ 40) ∧ CL 112 Q1 (R1 66) ∧ LOK (R1 66) ∧ AgP (R 66) (R1 66) ∧ AgS (R 66) (R1 66) ∧ FrJ Q Q1 ∧ (∀ a, a ≠ 66 → R1 a = R a) := by
      intro wv w1 w2 c1 m1
      obtain ⟨gC, rfl⟩ : ∃ f, fC' = f + 1 := ⟨fC' - 1, by omega⟩
      obtain ⟨gM, rfl⟩ : ∃ f, fM' = f + 1 := ⟨fM' - 1, by omega⟩
      rw [loop_st c1, loop_st m1]
      have nw : ¬ (wv = 0) := by omega
      refine ⟨setR Q 193 (updf (Q 193) 7 wv), R, k, wv, loop_ex ?_, loop_ex ?_, ⟨?_, ?_⟩, by omega, by omega, CL_q cl (fun a h1 h2 => setR_ne (by omega)), lo, AgP_refl _, AgS_refl _, ⟨fun a h1 h2 => setR_ne h2, fun j h1 h2 => ?_⟩, fun _ _ => rfl⟩
      · simp (disch := first | assumption | omega) only [fX6_judge_L15, I_lit, orb_I, I_add, I_sub, I_mul, I_neg, nm_eq, bd0_s, bd2_s, un2_eq, un3_eq, un4_eq, un5_eq, un6_eq, cs2_l, cs2_r, mk_1, mk_2, wI_mk, wL_mk, wR_mk, setR_same, setR_setR, rZ_0, rZ_1, rZ_b2, it_b2, it_nb2, it_b21, it_nb21, I_lt, I_le, I_eq, I_div, castI, if_true, if_false, Classical.not_not, updf_same, nw, not_false_eq_true]
      · simp (disch := first | assumption | omega) only [fX13_roll_L73, I_lit, orb_I, I_add, I_sub, I_mul, I_neg, nm_eq, bd0_s, bd2_s, un2_eq, un3_eq, un4_eq, un5_eq, un6_eq, cs2_l, cs2_r, mk_1, mk_2, wI_mk, wL_mk, wR_mk, setR_same, setR_setR, rZ_0, rZ_1, rZ_b2, it_b2, it_nb2, it_b21, it_nb21, I_lt, I_le, I_eq, I_div, castI, if_true, if_false, Classical.not_not, r36, h5, nw, not_false_eq_true]
      · rw [setR_same, updf_same rfl]
      · rw [setR_same, updf_ne (by omega)]; exact q8
      · rw [setR_same, updf_ne h1]
    have o4' : R 79 (2 + 3 * (k : Int)) = Q 196 k := by rw [Int.add_comm]; exact o4
    generalize ha : Q 194 k = a at *
    generalize hwho : Q 195 k = who at *
    generalize hx : Q 196 k = x at *
    rcases o1 with ok | ⟨a6, x1', x2'⟩
    · obtain ⟨g1, g2, g3, g4, g5⟩ := ok
      have ok : okA (R 66) a who x := ⟨g1, g2, g3, g4, g5⟩
      have na6 : ¬ (a = 6) := by omega
      have o3' := o3 na6
      have cw := C_whyNot (S := S) (w := w) hS hr isLife112 wf lo.1 cp cl ok
      have mw := M_why (S := S') (w := v) hS' hr' wf lo.1 ok
      have hr2 : 0 ≤ whyA (R 66) a who x ∧ whyA (R 66) a who x ≤ 4 := by
        unfold whyA why0 why1 why2 why3 why4 why5
        unfold ii
        (repeat' split) <;> omega
      by_cases hy : whyA (R 66) a who x = 0
      · rw [hy] at cw mw
        obtain ⟨Qn, e1, e2, e3⟩ := C_carryOut (S := S) (w := w) hS hr isLife112 wf lo.1 cp cl ok hy
        have ml := M_live (S := S') (w := v) hS' hr' wf lo.1 ok hy
        have qn8 : Qn 193 8 = k := by rw [e3 193 (by omega)]; exact q8
        refine onext (liveA (R 66) a who x) Qn (AgP_live wf ok hy) (AgS_live wf ok hy) ⟨WFL_live wf lo.1 ok hy, WFW_live wf lo.1 lo.2 ok hy⟩ e2 e3 ?_ ?_
        · simp (disch := first | assumption | omega) only [fX6_judge_L15, fX6_judge_b145, I_lit, orb_I, I_add, I_sub, I_mul, I_neg, nm_eq, bd0_s, bd2_s, un2_eq, un3_eq, un4_eq, un5_eq, un6_eq, cs2_l, cs2_r, mk_1, mk_2, wI_mk, wL_mk, wR_mk, setR_same, setR_setR, rZ_0, rZ_1, rZ_b2, it_b2, it_nb2, it_b21, it_nb21, I_lt, I_le, I_eq, I_div, castI, if_true, if_false, Classical.not_not, q7, q8, q5, not_true, h5, h40, gC193_2, gC193_3, gC193_4, ldC194, ldC195, ldC196, ha, hwho, hx, cw, na6, not_false_eq_true, e1, qn8]
        · simp (disch := first | assumption | omega) only [fX13_roll_L73, fX13_goBy, I_lit, orb_I, I_add, I_sub, I_mul, I_neg, nm_eq, bd0_s, bd2_s, un2_eq, un3_eq, un4_eq, un5_eq, un6_eq, cs2_l, cs2_r, mk_1, mk_2, wI_mk, wL_mk, wR_mk, setR_same, setR_setR, rZ_0, rZ_1, rZ_b2, it_b2, it_nb2, it_b21, it_nb21, I_lt, I_le, I_eq, I_div, castI, if_true, if_false, Classical.not_not, r36, h5, not_true, gM34, ldM79, o2, o3', o4, na6, not_false_eq_true, mw, ml]
      · refine ostop (10 * a + whyA (R 66) a who x) (by omega) (by omega) ?_ ?_
        · have nz : ¬ (I (whyA (R 66) a who x) = I 0) := by rw [I_eq (by omega) (by omega)]; exact hy
          simp (disch := first | assumption | omega) only [fX6_judge_L15, fX6_judge_b145, I_lit, orb_I, I_add, I_sub, I_mul, I_neg, nm_eq, bd0_s, bd2_s, un2_eq, un3_eq, un4_eq, un5_eq, un6_eq, cs2_l, cs2_r, mk_1, mk_2, wI_mk, wL_mk, wR_mk, setR_same, setR_setR, rZ_0, rZ_1, rZ_b2, it_b2, it_nb2, it_b21, it_nb21, I_lt, I_le, I_eq, I_div, castI, if_true, if_false, Classical.not_not, q7, q8, q5, not_true, h5, h40, gC193_2, gC193_3, gC193_4, ldC194, ldC195, ldC196, ha, hwho, hx, cw, hy]
        · have nz : ¬ (10 * a + whyA (R 66) a who x = 0) := by omega
          simp (disch := first | assumption | omega) only [fX13_roll_L73, fX13_goBy, I_lit, orb_I, I_add, I_sub, I_mul, I_neg, nm_eq, bd0_s, bd2_s, un2_eq, un3_eq, un4_eq, un5_eq, un6_eq, cs2_l, cs2_r, mk_1, mk_2, wI_mk, wL_mk, wR_mk, setR_same, setR_setR, rZ_0, rZ_1, rZ_b2, it_b2, it_nb2, it_b21, it_nb21, I_lt, I_le, I_eq, I_div, castI, if_true, if_false, Classical.not_not, r36, h5, not_true, gM34, ldM79, o2, o3', o4, na6, not_false_eq_true, mw, hy, nz]
    · subst a6
      have cw := C_whyNot6 (S := S) (w := w) (who := who) hS hr lo.1 cl ⟨x1', x2'⟩
      by_cases hh : x ≤ 600 - R 66 102
      · rw [ii_t hh] at cw
        have w8 := W8_of wf lo.2
        obtain ⟨Qn, e1, e2, e3⟩ := C_passHours (S := S) (w := w) hS hr isLife112 wf lo.1 w8 cp cl (n := x) ⟨by omega, hh⟩
        have mp := M_passHours (S := S') (w := v) (n := x) hS' hr' wf lo.1 w8 (by omega)
        have emin : min x (600 - R 66 102) = x := by omega
        rw [emin] at mp
        have qn8 : Qn 193 8 = k := by rw [e3 193 (by omega)]; exact q8
        have hle : R 66 102 + x ≤ 600 := by omega
        refine onext (hoursN (R 66) x.toNat) Qn (OKL_hoursN wf lo.1 w8 x.toNat (by omega)).1.1 (AgS_hoursN wf lo.1 w8 x.toNat (by omega)) (LOK_hoursN wf lo x.toNat (by omega)) e2 e3 ?_ ?_
        · simp (disch := first | assumption | omega) only [fX6_judge_L15, fX6_judge_b145, I_lit, orb_I, I_add, I_sub, I_mul, I_neg, nm_eq, bd0_s, bd2_s, un2_eq, un3_eq, un4_eq, un5_eq, un6_eq, cs2_l, cs2_r, mk_1, mk_2, wI_mk, wL_mk, wR_mk, setR_same, setR_setR, rZ_0, rZ_1, rZ_b2, it_b2, it_nb2, it_b21, it_nb21, I_lt, I_le, I_eq, I_div, castI, if_true, if_false, Classical.not_not, q7, q8, q5, not_true, h5, h40, gC193_2, gC193_3, gC193_4, ldC194, ldC195, ldC196, ha, hwho, hx, cw, not_false_eq_true, e1, qn8]
        · simp (disch := first | assumption | omega) only [fX13_roll_L73, fX13_goBy, I_lit, orb_I, I_add, I_sub, I_mul, I_neg, nm_eq, bd0_s, bd2_s, un2_eq, un3_eq, un4_eq, un5_eq, un6_eq, cs2_l, cs2_r, mk_1, mk_2, wI_mk, wL_mk, wR_mk, setR_same, setR_setR, rZ_0, rZ_1, rZ_b2, it_b2, it_nb2, it_b21, it_nb21, I_lt, I_le, I_eq, I_div, castI, if_true, if_false, Classical.not_not, r36, h5, not_true, gM34, gM14, ldM66, ldM79, o2, o4, not_false_eq_true, hle, mp]
      · rw [ii_f hh] at cw
        have hle : ¬ (R 66 102 + x ≤ 600) := by omega
        refine ostop 61 (by omega) (by omega) ?_ ?_
        · simp (disch := first | assumption | omega) only [fX6_judge_L15, fX6_judge_b145, I_lit, orb_I, I_add, I_sub, I_mul, I_neg, nm_eq, bd0_s, bd2_s, un2_eq, un3_eq, un4_eq, un5_eq, un6_eq, cs2_l, cs2_r, mk_1, mk_2, wI_mk, wL_mk, wR_mk, setR_same, setR_setR, rZ_0, rZ_1, rZ_b2, it_b2, it_nb2, it_b21, it_nb21, I_lt, I_le, I_eq, I_div, castI, if_true, if_false, Classical.not_not, q7, q8, q5, not_true, h5, h40, gC193_2, gC193_3, gC193_4, ldC194, ldC195, ldC196, ha, hwho, hx, cw, Int.reduceEq]
          rfl
        · simp (disch := first | assumption | omega) only [fX13_roll_L73, fX13_goBy, I_lit, orb_I, I_add, I_sub, I_mul, I_neg, nm_eq, bd0_s, bd2_s, un2_eq, un3_eq, un4_eq, un5_eq, un6_eq, cs2_l, cs2_r, mk_1, mk_2, wI_mk, wL_mk, wR_mk, setR_same, setR_setR, rZ_0, rZ_1, rZ_b2, it_b2, it_nb2, it_b21, it_nb21, I_lt, I_le, I_eq, I_div, castI, if_true, if_false, Classical.not_not, r36, h5, not_true, gM34, gM14, ldM66, ldM79, o2, o4, not_false_eq_true, hle, Int.reduceEq]
