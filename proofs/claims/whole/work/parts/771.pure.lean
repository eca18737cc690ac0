theorem M_sen79 {S : Nat → Nat × Nat} {R : Nat → Int → Int} {w : Nat → Nat → Int64} {rf : Nat → Nat → Option Nat} (hS : SMok S) (hr : RMok rf) : loopN (fX13_sentence_L79 S 64) 1000 (I 0, mk R w rf) = some (mk (setR R 66 (cpf (R 66) (R 81) 143 0 240)) w rf) := by
  have l1 := loop_seq (f := fX13_sentence_L79 S 64) (m := 1000) (fun j => (I j, mk (setR R 66 (cpf (R 66) (R 81) 143 0 j)) w rf)) 240 (r := mk (setR R 66 (cpf (R 66) (R 81) 143 0 240)) w rf) (by omega) (by
    intro j hj
    have h5 : ¬ ((240 : Int) ≤ (j : Int)) := by omega
    simp (disch := first | assumption | omega) only [fX13_sentence_L79, I_lit, orb_I, I_add, I_sub, I_mul, I_neg, nm_eq, bd0_s, bd2_s, un2_eq, un3_eq, un4_eq, un5_eq, un6_eq, cs2_l, cs2_r, mk_1, mk_2, wI_mk, wL_mk, wR_mk, setR_same, setR_setR, rZ_0, rZ_1, rZ_b2, it_b2, it_nb2, it_b21, it_nb21, I_lt, I_le, I_eq, I_div, castI, if_true, if_false, Classical.not_not, gM14, gM38, ldM81, stM66, setR_ne, h5]
    rw [cpf_succ (by omega) (by omega) (by rw [Int.zero_add])]
    rfl) (by
    simp (disch := first | assumption | omega) only [fX13_sentence_L79, I_lit, orb_I, I_add, I_sub, I_mul, I_neg, nm_eq, bd0_s, bd2_s, un2_eq, un3_eq, un4_eq, un5_eq, un6_eq, cs2_l, cs2_r, mk_1, mk_2, wI_mk, wL_mk, wR_mk, setR_same, setR_setR, rZ_0, rZ_1, rZ_b2, it_b2, it_nb2, it_b21, it_nb21, I_lt, I_le, I_eq, I_div, castI, if_true, if_false, Classical.not_not]
    rfl)
  have e0 : (I ((0 : Nat) : Int), mk (setR R 66 (cpf (R 66) (R 81) 143 0 ((0 : Nat) : Int))) w rf) = (I 0, mk R w rf) := by
    rw [show ((0 : Nat) : Int) = 0 from rfl, cpf_0, setR_id]
  simp only [e0] at l1
  exact l1
theorem op_sentence {S S' : Nat → Nat × Nat} (hS : SCok S) (hS' : SMok S') : OpC1 (fun σ => fX12_sentence S σ 64) (fun σ => fX13_sentence S' σ 64) := by
  intro t σC σM ⟨Q, w, rf, R, v, rm, q1, q2, hr, hr', inv, tx⟩; subst q1; subst q2
  obtain ⟨ta, ⟨wf, cp, nam⟩, ⟨lo, cl⟩, ur, fa, wk, ro, se, im, ⟨sw1, sw2, sw3, sw4⟩⟩ := inv
  have wn0 := wf.1
  have wn1 := wf.2.1
  generalize hqb : setR Q 201 (updf (updf (Q 201) 4 0) 3 0) = Qb
  have qb : ∀ a, a ≠ 201 → Qb a = Q a := fun a h1 => by rw [← hqb, setR_ne h1]
  have ta' : tapeR (Qb 66) (Qb 65 1) (R 64 2) (R 65) := by rw [qb 66 (by omega), qb 65 (by omega)]; exact ta
  obtain ⟨Q1, w1, rf1, R1, v1, b1, b2', b3, b4, b5, ⟨b6, b7, b8⟩, ⟨b9, b10, b11, b12⟩, b13⟩ := BEG (w := w) (v := v) (lim := 200) hS hS' hr hr' ta' (by omega)
  generalize hr2 : setR R1 64 (updf (updf (updf (R1 64) 39 0) 40 0) 41 0) = R2
  have r2o : ∀ a, a ≠ 64 → R2 a = R1 a := fun a h1 => by rw [← hr2, setR_ne h1]
  have r264 : ∀ j, j < 39 ∨ 41 < j → R2 64 j = R1 64 j := fun j hj => by rw [← hr2, setR_same, updf_ne (by omega), updf_ne (by omega), updf_ne (by omega)]
  have sy : SYN Q1 w1 rf1 R2 v1 (R 64 2) 200 := SYN_q b4 (fun _ _ _ => rfl) rfl (fun j _ _ => r264 j (by omega)) (r2o 65 (by omega)) rfl rfl rfl
  have e66 : R2 66 = R 66 := by rw [r2o 66 (by omega), b9 66 (by omega)]
  have q201 : Q1 201 = updf (updf (Q 201) 4 0) 3 0 := by rw [b6 201 (by omega), ← hqb, setR_same]
  have rf202 : rf1 202 = rf 202 := funext (fun j => b8 202 j (by omega))
  have ss : SS Q1 rf1 R2 [] 0 := by
    refine ⟨⟨?_, ?_⟩, ⟨?_, ?_⟩, ⟨by omega, by omega, by show ((0 : Nat) : Int) ≤ 2 * 0; omega⟩, fun i hi => (nomatch hi), fun k h1 h2 => ?_, ?_⟩
    · rw [q201, updf_same rfl]; rfl
    · rw [← hr2, setR_same, updf_ne (by omega), updf_ne (by omega), updf_same rfl]; rfl
    · rw [q201, updf_ne (by omega), updf_same rfl]
    · rw [← hr2, setR_same, updf_ne (by omega), updf_same rfl]
    · exfalso
      have : k < ((0 : Nat) : Int) := h2
      omega
    · rw [rf202]; exact sw2
  have w68 : w1 68 = w 68 := funext (fun j => b7 68 j (by omega))
  have w74 : w1 74 = w 74 := funext (fun j => b7 74 j (by omega))
  have w81 : w1 81 = w 81 := funext (fun j => b7 81 j (by omega))
  have v71 : v1 71 = v 71 := funext (fun j => b12 71 j (by omega))
  have pn : PN Q1 w1 R2 v1 := by
    unfold PN
    rw [e66, w68, w74, w81, v71]
    exact ⟨wf, CP_q cp (fun a h1 h2 => by rw [b6 a (by omega), qb a (by omega)]), nam⟩
  have o1 := S_LEVEL (S := S) (S' := S') (rm := rm) (n := R 64 2) hS hS' hr' 8 0 (by omega) 98 98 (by omega) (by omega) (by omega)
  have o2 : RS S' rm (R 64 2) 0 (fun σ => gX7_readAll S 99 0 σ 201 65 67 (I 0)) (fun σ => gX13_readAnd S' 99 0 σ 64) := S_ALL (FC := gX7_readAll S 98) (FM := gX13_readAnd S' 98) hS hS' hr' o1
  have o3 : RS S' rm (R 64 2) 0 (fun σ => gX7_readAll S 100 1 σ 201 65 67 (I 0)) (fun σ => gX13_readAnd S' 100 3 σ 64) := S_OR (FC := gX7_readAll S 99) (FM := gX13_readAnd S' 99) hS hS' hr' o2
  obtain ⟨Q4, w4, rf4, R4, v4, c1, c2, c3, c4⟩ := o3 Q1 w1 rf1 R2 v1 [] 0 b5 sy ss pn (by rw [← hr2, setR_same, updf_same rfl])
  dsimp only at c4
  have ecr : fX7_read S (mk Q w rf) 201 65 67 = bd2 (gX7_readAll S 100 1 (mk Q1 w1 rf1) 201 65 67 (I 0)) fun v4 τ5 => if ¬ v4 = 0 then (if (τ5.1 65 4) = 0 then fX7_read_b42 S τ5 else bd2 (fX8_fails S τ5 65 (1 : Int32)) fun v6 τ7 => if v6 = 0 then fX7_read_b47 S τ7 (0 : Int32) else fX7_read_b42 S τ7) else some ((0 : Int32), τ5) := by
    have ef : fX7_forget S (mk Q w rf) 201 = some (mk Qb w rf) := by
      unfold fX7_forget
      rw [show (0 : Int32) = I 0 from rfl, wI_mk, wI_mk, castI, castI, setR_same, setR_setR, hqb]
    unfold fX7_read
    rw [ef, bd0_s, show (200 : Int32) = I 200 from rfl, b1, bd0_s, b2', bd0_s]
    rfl
  have emr : fX13_sentence S' (mk R v rm) 64 = bd2 (gX13_readAnd S' 100 3 (mk R2 v1 rm) 64) fun v5 τ6 => if ¬ v5 = 0 then (if (τ6.1 64 7) = 0 then gR τ6 64 14 fun r7 => stI S' τ6 r7 (141 : Int32) (1 : Int32) fun τ8 => gR τ8 64 14 fun r9 => stI S' τ8 r9 (142 : Int32) (τ8.1 64 42) fun τ10 => bd0 (loopN (fX13_sentence_L79 S' 64) 1000 ((0 : Int32), τ10)) (fun τ12 => some ((τ12.1 64 40), τ12)) else bd2 (fX13_bad S' τ6 64 (1 : Int32)) fun v13 τ14 => some (((-1 : Int32) - (τ14.1 64 11)), τ14)) else some (((-1 : Int32) - (τ6.1 64 11)), τ6) := by
    have em : (wI (mk R1 v1 rm) 64 39 (0 : Int32) fun τ2 => wI τ2 64 40 (0 : Int32) fun τ3 => wI τ3 64 41 (0 : Int32) fun τ4 => some τ4) = some (mk R2 v1 rm) := by
      rw [show (0 : Int32) = I 0 from rfl, wI_mk, wI_mk, wI_mk, castI, castI, castI, setR_same, setR_setR, setR_same, setR_setR, hr2]
    have em2 : ∀ G : mm → Option (Int32 × mm), (wI (mk R1 v1 rm) 64 39 (0 : Int32) fun τ2 => wI τ2 64 40 (0 : Int32) fun τ3 => wI τ3 64 41 (0 : Int32) G) = bd0 (wI (mk R1 v1 rm) 64 39 (0 : Int32) fun τ2 => wI τ2 64 40 (0 : Int32) fun τ3 => wI τ3 64 41 (0 : Int32) fun τ4 => some τ4) G := fun G => rfl
    unfold fX13_sentence
    rw [show (200 : Int32) = I 200 from rfl, b3, bd0_s, em2, em, bd0_s]
  have k64 : ∀ j, (13 < j ∧ j < 39) ∨ 42 < j → R4 64 j = R 64 j := fun j h1 => by rw [c2.2.1 j (by omega), r264 j (by omega), b11 j (by omega)]
  have k2 : R4 64 2 = 0 := by rw [c2.2.1 2 (by omega), r264 2 (by omega), b10]
  have km : ∀ a, a ≠ 64 → a ≠ 81 → R4 a = R a := fun a h1 h2 => by rw [c2.1 a h1 h2, r2o a h1, b9 a h1]
  have kv : ∀ a j, ¬ (a = 64 ∧ j = 12) → v4 a j = v a j := fun a j h1 => by rw [c2.2.2 a j h1, b12 a j h1]
  have kq : ∀ a, a ≠ 65 → a ≠ 201 → a ≠ 203 → a ≠ 204 → Q4 a = Q a := fun a h1 h2 h3 h4 => by rw [c1.1 a h1 h2 h3 h4, b6 a h1, qb a h2]
  have kw : ∀ a j, ¬ (a = 65 ∧ j = 7) → w4 a j = w a j := fun a j h1 => by rw [c1.2.1 a j h1, b7 a j h1]
  have kr : ∀ a j, ¬ (a = 65 ∧ j = 8) → a ≠ 202 → rf4 a j = rf a j := fun a j h h2 => by rw [c1.2.2.1 a j h h2, b8 a j h]
  have kr' : ∀ a, a ≠ 65 → a ≠ 202 → rf4 a = rf a := fun a h h2 => funext (fun j => kr a j (by omega) h2)
  have v71' : v4 71 = v 71 := funext (fun j => kv 71 j (by omega))
  have v73 : v4 73 = v 73 := funext (fun j => kv 73 j (by omega))
  have w68' : w4 68 = w 68 := funext (fun j => kw 68 j (by omega))
  have w74' : w4 74 = w 74 := funext (fun j => kw 74 j (by omega))
  have w81' : w4 81 = w 81 := funext (fun j => kw 81 j (by omega))
  have h66 : R4 66 = R 66 := km 66 (by omega) (by omega)
  have nz1 : ¬ ((1 : Int32) = 0) := by decide
  have s202 : senW (rf4 202) := c1.2.2.2 (by rw [rf202]; exact sw2)
  -- how a fault ends
  have bad : ∀ (Qf Rf : Nat → Int → Int), (∀ a, a ≠ 65 → Qf a = Q4 a) → senW (rf4 202) → (∀ a, a ≠ 64 → Rf a = R4 a) → (∀ j, j < 10 ∨ 11 < j → Rf 64 j = R4 64 j) → FAIL Qf Rf → fX7_read S (mk Q w rf) 201 65 67 = some (0, mk Qf w4 rf4) → fX13_sentence S' (mk R v rm) 64 = some (I (-1 - Rf 64 11), mk Rf v4 rm) → ∃ r σC' σM', fX12_sentence S (mk Q w rf) 64 = some (r, σC') ∧ fX13_sentence S' (mk R v rm) 64 = some (r, σM') ∧ SimX t σC' σM' := by
    intro Qf Rf hqf s202 hrf hrj fl hc hm
    obtain ⟨g1, g2, g3, g4⟩ := fl
    generalize hq5 : setR (setR Qf 64 (updf (Qf 64) 17 (Qf 65 9))) 65 (updf (Qf 65) 1 0) = Q5
    have q5o : ∀ a, a ≠ 64 → a ≠ 65 → Q5 a = Qf a := fun a h1 h2 => by rw [← hq5, setR_ne h2, setR_ne h1]
    have e5 : ∀ a, a ≠ 64 → a ≠ 65 → a ≠ 201 → a ≠ 203 → a ≠ 204 → Q5 a = Q a := fun a h1 h2 h3 h4 h5 => by rw [q5o a h1 h2, hqf a h2, kq a h2 h3 h4 h5]
    have e5' : setR (setR Qf 64 (updf (Qf 64) ((17 : Nat) : Int) (Qf 65 9))) 65 (updf (setR Qf 64 (updf (Qf 64) ((17 : Nat) : Int) (Qf 65 9)) 65) ((1 : Nat) : Int) 0) = Q5 := by
      rw [setR_ne (b := 65) (a := 64) (by omega), ← hq5]
      rfl
    have s1 : Q5 65 1 = 0 := by rw [← hq5, setR_same, updf_same rfl]
    have s17 : Q5 64 17 = Qf 65 9 := by rw [← hq5, setR_ne (by omega), setR_same, updf_same rfl]
    have q510 : (mk Q5 w4 rf4).1 65 10 = I (Rf 64 11) := by rw [mk_1, castI, ← hq5, setR_same, updf_ne (by omega), g2]
    have f66 : Rf 66 = R 66 := by rw [hrf 66 (by omega), h66]
    have fo : ∀ a, a ≠ 64 → a ≠ 81 → Rf a = R a := fun a h1 h2 => by rw [hrf a h1, km a h1 h2]
    have fj : ∀ j, (13 < j ∧ j < 39) ∨ 42 < j → Rf 64 j = R 64 j := fun j h1 => by rw [hrj j (by omega), k64 j h1]
    have f2 : Rf 64 2 = 0 := by rw [hrj 2 (by omega), k2]
    refine ⟨I (-1 - Rf 64 11), mk Q5 w4 rf4, mk Rf v4 rm, ?_, hm, Q5, w4, rf4, Rf, v4, rm, rfl, rfl, c3, hr', ⟨?_, ⟨?_, ?_, ?_⟩, ⟨?_, ?_⟩, ?_, ?_, ?_, ?_, ?_, ?_, ?_⟩, ?_⟩
    · unfold fX12_sentence
      rw [gC64_11 hr, gC64_0 hr, gC64_1 hr, hc, bd2_p, gC64_0 c3, mk_1, castI, wI_mk, gC64_0 c3, show (0 : Int32) = I 0 from rfl, wI_mk, e5', if_neg (fun h => h rfl), gC64_0 c3, q510, show (-1 : Int32) = I (-1) from rfl, I_sub]
    · exact ⟨by rw [s1, f2], by omega, fun i h1 h2 => by omega⟩
    · rw [f66]; exact wf
    · rw [f66]; exact CP_q cp (fun a h1 h2 => e5 a (by omega) (by omega) (by omega) (by omega) (by omega))
    · rw [f66, w68', w74', w81', v71']; exact nam
    · rw [f66]; exact lo
    · rw [f66]; exact CL_q cl (fun a h1 h2 => e5 a (by omega) (by omega) (by omega) (by omega) (by omega))
    · rw [fj 23 (by omega), f66, fo 69 (by omega) (by omega)]
      exact UR_q ur wf (fun a h => e5 a (by omega) (by omega) (by omega) (by omega) (by omega)) (kr' 121 (by omega) (by omega)) (AgP_refl _)
    · rw [s17]; exact g1
    · rw [e5 189 (by omega) (by omega) (by omega) (by omega) (by omega), e5 192 (by omega) (by omega) (by omega) (by omega) (by omega), fj 28 (by omega), fo 77 (by omega) (by omega)]; exact wk
    · rw [fj 37 (by omega), fo 80 (by omega) (by omega), e5 193 (by omega) (by omega) (by omega) (by omega) (by omega)]; exact ro
    · rw [e5 199 (by omega) (by omega) (by omega) (by omega) (by omega), e5 200 (by omega) (by omega) (by omega) (by omega) (by omega), e5 197 (by omega) (by omega) (by omega) (by omega) (by omega), kr' 198 (by omega) (by omega), f66]; exact se
    · rw [fo 68 (by omega) (by omega), fo 74 (by omega) (by omega), v73]
      exact imgR_q im (fun a h => e5 a (by omega) (by omega) (by omega) (by omega) (by omega)) (fun a h => funext (fun j => kw a j (by omega))) (kr' 238 (by omega) (by omega)) (kr' 268 (by omega) (by omega))
    · rw [kr' 198 (by omega) (by omega), kr' 238 (by omega) (by omega), kr' 268 (by omega) (by omega)]
      exact ⟨sw1, s202, sw3, sw4⟩
    · rw [fj 32 (by omega), fo 78 (by omega) (by omega)]; exact tx
  rcases c4 with ⟨T, o', l1, l2, d1, d2, d3, d4, d5, d6, d7⟩ | ⟨l1, l2, fl⟩
  rotate_left
  · rw [l1, bd2_p, if_neg (by decide)] at ecr
    rw [l2, bd2_p, if_neg (by decide), mk_1, castI, show (-1 : Int32) = I (-1) from rfl, I_sub] at emr
    exact bad Q4 R4 (fun _ _ => rfl) s202 (fun _ _ => rfl) (fun _ _ => rfl) fl ecr emr
  have tk4 := TK_k d1.2
  rw [l1, bd2_p, if_pos nz1, mk_1, castI] at ecr
  rw [l2, bd2_p, if_pos nz1, mk_1, castI] at emr
  by_cases kz : R4 64 7 = 0
  rotate_left
  · have n4 : ¬ (I (Q4 65 4) = 0) := by
      rw [I_lit, I_eq (by omega) (by omega)]
      exact fun h => kz (tk4.2.2.2.1.1 h)
    have n7 : ¬ (I (R4 64 7) = 0) := by
      rw [I_lit, I_eq (by omega) (by omega)]
      exact kz
    rw [if_neg n4, show (1 : Int32) = I 1 from rfl, C_fails, bd2_p, if_pos rfl] at ecr
    have mb : fX13_bad S' (mk R4 v4 rm) 64 (1 : Int32) = some (0, mk (badR R4 1) v4 rm) := M_bad (k := 1) (Or.inr rfl) tk4.1
    rw [if_neg n7, mb, bd2_p, mk_1, castI, show (-1 : Int32) = I (-1) from rfl, I_sub] at emr
    refine bad (failQ Q4 1) (badR R4 1) (fun a ha => (fc_fail (w := w) (rf := rf) (k := 1) (fc_refl (Q := Q4))).1 a ha) s202 (fun a ha => (fm_bad (v := v) (k := 1) (fm_refl (R := R4))).1 a ha) (fun j hj => ?_) (FAIL_mk d1.2) ecr emr
    unfold badR
    rw [setR_same, updf_ne (by omega), updf_ne (by omega)]
  have z4 : Q4 65 4 = 0 := tk4.2.2.2.1.2 kz
  rw [z4, if_pos (show I 0 = (0 : Int32) from rfl)] at ecr
  rw [kz, if_pos (show I 0 = (0 : Int32) from rfl)] at emr
  have ecr2 : fX7_read S (mk Q w rf) 201 65 67 = some (1, mk Q4 w4 rf4) := ecr
  have s5 := d2.2.2.1
  have eT : ([] : List (Int × Int × Int × Int)) ++ T = T := rfl
  rw [eT] at d2 d4 s5
  have f9 : Q4 65 9 = 0 := d1.1.2.2.2.2.2.2.1
  have f10 : R4 64 10 = 0 := d1.1.2.2.2.2.2.2.2
  generalize hq5 : setR (setR Q4 64 (updf (Q4 64) 17 0)) 65 (updf (Q4 65) 1 0) = Q5
  have q5o : ∀ a, a ≠ 64 → a ≠ 65 → Q5 a = Q4 a := fun a h1 h2 => by rw [← hq5, setR_ne h2, setR_ne h1]
  have e5' : setR (setR Q4 64 (updf (Q4 64) ((17 : Nat) : Int) 0)) 65 (updf (setR Q4 64 (updf (Q4 64) ((17 : Nat) : Int) 0) 65) ((1 : Nat) : Int) 0) = Q5 := by
    rw [setR_ne (b := 65) (a := 64) (by omega), ← hq5]
    rfl
  have s1 : Q5 65 1 = 0 := by rw [← hq5, setR_same, updf_same rfl]
  have s17 : Q5 64 17 = 0 := by rw [← hq5, setR_ne (by omega), setR_same, updf_same rfl]
  obtain ⟨cs, hr6⟩ := C_copySen (S := S) (Q := Q5) (w := w4) (s := 197) (t := 201) hS c3 (by unfold isSen; omega) (by unfold isSen; omega) (by omega) s202
  -- the reference's last steps
  generalize hN : cpf (updf (updf (R 66) 141 1) 142 (R4 64 42)) (R4 81) 143 0 240 = N
  have m79 := M_sen79 (S := S') (R := setR R4 66 (updf (updf (R 66) 141 1) 142 (R4 64 42))) (w := v4) hS' hr'
  rw [setR_same, setR_setR, setR_ne (b := 81) (a := 66) (by omega), hN] at m79
  generalize hR6 : setR R4 66 N = R6 at m79
  have r6o : ∀ a, a ≠ 66 → R6 a = R4 a := fun a ha => by rw [← hR6, setR_ne ha]
  have r666 : R6 66 = N := by rw [← hR6, setR_same]
  have em3 : fX13_sentence S' (mk R v rm) 64 = some (I o', mk R6 v4 rm) := by
    have e40 : (mk R6 v4 rm).1 64 40 = I o' := by rw [mk_1, castI, r6o 64 (by omega), d2.2.1.2]
    have st1 : ∀ G : mm → Option (Int32 × mm), stI S' (mk R4 v4 rm) 66 (141 : Int32) (1 : Int32) G = G (mk (setR R4 66 (updf (R 66) 141 1)) v4 rm) := fun G => by
      rw [show (141 : Int32) = I 141 from rfl, show (1 : Int32) = I 1 from rfl, stM66 hS' (by omega), h66]
    have t42 : (mk (setR R4 66 (updf (R 66) 141 1)) v4 rm).1 64 42 = I (R4 64 42) := by rw [mk_1, castI, setR_ne (by omega)]
    have st2 : ∀ G : mm → Option (Int32 × mm), stI S' (mk (setR R4 66 (updf (R 66) 141 1)) v4 rm) 66 (142 : Int32) (I (R4 64 42)) G = G (mk (setR R4 66 (updf (updf (R 66) 141 1) 142 (R4 64 42))) v4 rm) := fun G => by
      rw [show (142 : Int32) = I 142 from rfl, stM66 hS' (by omega), setR_same, setR_setR]
    rw [emr, gM14 hr', st1, gM14 hr', t42, st2, show (0 : Int32) = I 0 from rfl, m79, bd0_s, e40]
  have agL : AgL (R 66) N := fun j hj => by rw [← hN, cpf_out (by omega), updf_ne (by omega), updf_ne (by omega)]
  have agP := AgL_P agL
  have n141 : N 141 = 1 := by rw [← hN, cpf_out (by omega), updf_ne (by omega), updf_same rfl]
  have n142 : N 142 = R4 64 42 := by rw [← hN, cpf_out (by omega), updf_same rfl]
  have nds : ndN N = nd81 (R4 81) := by
    funext j
    unfold ndN nd81
    by_cases h : j < 0 ∨ 240 ≤ j
    · rw [if_pos h, if_pos h]
    · rw [if_neg h, if_neg h, ← hN, cpf_in (k := j) (by omega) (by omega)]
  have se5 : senR (rf4 (201 + 1)) (Q5 (201 + 2)) (Q5 (201 + 3)) (Q5 201 3) (Q5 201 4) N := by
    refine Or.inr ⟨n141, ?_, ?_, T, ?_, ?_, ?_, ?_⟩
    · rw [q5o 201 (by omega) (by omega), d2.2.1.1]; omega
    · rw [q5o 201 (by omega) (by omega), d2.2.1.1]; omega
    · rw [nds, n142]
      exact pfx_mono _ _ _ d5 60 (by omega)
    · rw [q5o 201 (by omega) (by omega), d2.1.1]
    · omega
    · intro i hi
      rw [q5o (201 + 2) (by omega) (by omega), q5o (201 + 3) (by omega) (by omega)]
      exact d2.2.2.2.1 i hi
  have se6 := senR_cp (s := 197) se5
  have o6 : ∀ a, a < 197 ∨ 197 + 3 < a → cpSen 197 201 Q5 a = Q5 a := fun a h => cpSen_out h
  have c4' : cpSen 197 201 Q5 197 4 = o' := by
    unfold cpSen
    rw [setR_same, updf_same rfl, q5o 201 (by omega) (by omega), d2.2.1.1]
  have hrfo : ∀ a j, a ≠ 197 + 1 → rfS rf4 197 201 40 a j = rf4 a j := fun a j h => by
    unfold rfS
    rw [if_neg (fun h2 => h h2.1)]
  have swo : ∀ a, senW (rf4 a) → senW (rfS rf4 197 201 40 a) := fun a ha => senW_cp s202 ha
  generalize hQ6 : cpSen 197 201 Q5 = Q6 at *
  generalize hrf6 : rfS rf4 197 201 40 = rf6 at *
  have e6 : ∀ a, a ≠ 64 → a ≠ 65 → ¬ (197 ≤ a ∧ a ≤ 204) → Q6 a = Q a := fun a h1 h2 h3 => by rw [o6 a (by omega), q5o a h1 h2, kq a h2 (by omega) (by omega) (by omega)]
  have kr6 : ∀ a, a ≠ 65 → a ≠ 198 → a ≠ 202 → rf6 a = rf a := fun a h1 h2 h3 => by rw [← kr' a h1 h3]; exact funext (fun j => hrfo a j (by omega))
  have g6 : ∀ a, a ≠ 64 → a ≠ 66 → a ≠ 81 → R6 a = R a := fun a h1 h2 h3 => by rw [r6o a h2, km a h1 h3]
  have g64 : R6 64 = R4 64 := r6o 64 (by omega)
  refine ⟨I o', mk Q6 w4 rf6, mk R6 v4 rm, ?_, em3, Q6, w4, rf6, R6, v4, rm, rfl, rfl, hr6, hr', ⟨?_, ⟨?_, ?_, ?_⟩, ⟨?_, ?_⟩, ?_, ?_, ?_, ?_, ?_, ?_, ?_⟩, ?_⟩
  · show fX12_sentence S (mk Q w rf) 64 = _
    have e197 : (mk Q6 w4 rf6).1 197 4 = I o' := by rw [mk_1, castI, c4']
    unfold fX12_sentence
    rw [gC64_11 hr, gC64_0 hr, gC64_1 hr, ecr2, bd2_p, gC64_0 c3, mk_1, castI, f9, wI_mk, gC64_0 c3, show (0 : Int32) = I 0 from rfl, wI_mk, e5', if_pos (by decide), gC64_10 c3, gC64_11 c3, cs, bd0_s, gC64_10 hr6, e197]
  · rw [o6 66 (by omega), o6 65 (by omega), s1, g64, k2]
    exact ⟨rfl, by omega, fun i h1 h2 => by omega⟩
  · rw [r666]; exact WFP_ag wf agP
  · rw [r666]; exact CP_fr (CP_q cp (fun a h1 h2 => e6 a (by omega) (by omega) (by omega))) wf isLife104 (FrL_refl 104 _) agP
  · rw [r666, w68', w74', w81', v71']
    unfold namR
    rw [agP 0 (by omega), agP 1 (by omega), agP 2 (by omega)]
    exact nam
  · rw [r666]; exact LOK_ag lo (by omega) agL
  · rw [r666]; exact CL_ag agL (by omega) (by omega) (CL_q cl (fun a h1 h2 => e6 a (by omega) (by omega) (by omega)))
  · rw [g64, k64 23 (by omega), r666, g6 69 (by omega) (by omega) (by omega)]
    exact UR_q ur wf (fun a h => e6 a (by omega) (by omega) (by omega)) (kr6 121 (by omega) (by omega) (by omega)) agP
  · rw [o6 64 (by omega), s17, g64, f10]
  · rw [e6 189 (by omega) (by omega) (by omega), e6 192 (by omega) (by omega) (by omega), g64, k64 28 (by omega), g6 77 (by omega) (by omega) (by omega)]; exact wk
  · rw [g64, k64 37 (by omega), g6 80 (by omega) (by omega) (by omega), e6 193 (by omega) (by omega) (by omega)]; exact ro
  · rw [r666]; exact se6
  · rw [g6 68 (by omega) (by omega) (by omega), g6 74 (by omega) (by omega) (by omega), v73]
    exact imgR_q im (fun a h => e6 a (by omega) (by omega) (by omega)) (fun a h => funext (fun j => kw a j (by omega))) (kr6 238 (by omega) (by omega) (by omega)) (kr6 268 (by omega) (by omega) (by omega))
  · exact ⟨swo _ (by rw [kr' 198 (by omega) (by omega)]; exact sw1), swo _ s202, swo _ (by rw [kr' 238 (by omega) (by omega)]; exact sw3), swo _ (by rw [kr' 268 (by omega) (by omega)]; exact sw4)⟩
  · rw [g64, k64 32 (by omega), g6 78 (by omega) (by omega) (by omega)]; exact tx
