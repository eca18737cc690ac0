theorem L_good {S S' : Nat → Nat × Nat} {Q : Nat → Int → Int} {w : Nat → Nat → Int64} {rf : Nat → Nat → Option Nat} {R : Nat → Int → Int} {v : Nat → Nat → Int64} {rm : Nat → Nat → Option Nat} {n : Int} (hS : SCok S) (hS' : SMok S') (hr : RCok rf) (hr' : RMok rm) (sy : SYN Q w rf R v n 900) (h7 : R 64 7 = 2) (dr : DRF Q w (v 72) (R 64 24) (R 67)) : LO S' rm n Q w rf R v (fX5_readGood S (mk Q w rf) 103) (fX13_readGood S' (mk R v rm) 64) := by
  have wf := dr.1
  have wn1 := wf.2.1
  have wn2 := wf.2.2.1
  obtain ⟨R1, v1, g1, g2, g3⟩ := goS (w := w) hS hS' hr hr' sy (by omega)
  have g4 := fmp_dr (fm_of g3)
  have FM1 : FMp R R1 v v1 := FMp_of (fm_of g3)
  have mf := M_readFirst (S' := S') (c := 2) (k := 6) hS' hr' (by omega) (by omega) (by omega) h7 g1
  have c4 : (mk Q w rf).1 98 4 = I (R 67 2) := by rw [mk_1, castI]; exact congrArg I dr.2.1.1.2.2.1
  by_cases full : R 67 2 = 6
  · rw [ii_t full] at mf
    refine ⟨failQ Q 4, w, rf, badR R 4, v, FCp_of (fc_fail fc_refl), FMp_of (fm_bad fm_refl), hr, Or.inr ⟨?_, ?_, FAIL_mk sy.2⟩⟩
    · unfold fX5_readGood
      rw [gC103_1 hr, gD85_15 hr, nm_eq, c4, if_neg (by rw [full]; decide), gC103_0 hr, I_lit, C_fails, bd2_p]
      rfl
    · unfold fX13_readGood
      rw [show fX13_readFirst S' (mk R v rm) 64 2 6 = _ from mf, bd2_p]
      rfl
  rw [ii_f full] at mf
  obtain ⟨k, hk⟩ : ∃ k : Nat, R 67 2 = k := ⟨(R 67 2).toNat, by omega⟩
  have hk6 : k < 6 := by omega
  have ek : ((k : Int)).toNat = k := by omega
  rw [hk] at c4
  have lt : I (k : Int) < (6 : Int32) := by rw [I_lit, I_lt (by omega) (by omega)]; omega
  have dr1 : DRF Q w (v1 72) (R1 64 24) (R1 67) := by rw [g4.1, g4.2.1, g4.2.2]; exact dr
  have mpre : fX13_readGood S' (mk R v rm) 64 = bd2 (fX13_readNew S' (mk R1 v1 rm) 64 (I ((12 + k : Nat) : Int))) fun v5 τ6 => if v5 = 0 then fX13_readGood_b89 S' τ6 else gR τ6 64 15 fun r7 => ldI S' τ6 r7 (I 1) fun v8 => bd2 (fX13_readOne S' τ6 64 (I 8) v8) fun v9 τ10 => bd2 (fX13_put S' τ10 64 (I (84 + k)) v9) fun v11 τ12 => if v11 = 0 then fX13_readGood_b89 S' τ12 else bd2 (fX13_readNumber S' τ12 64 (I 0) (I 99)) fun v13 τ14 => bd2 (fX13_put S' τ14 64 (I (90 + k)) v13) fun v15 τ16 => if v15 = 0 then fX13_readGood_b89 S' τ16 else bd2 (fX13_readNumber S' τ16 64 (I 0) (I 99)) fun v17 τ18 => bd2 (fX13_put S' τ18 64 (I (96 + k)) v17) fun v19 τ20 => if ¬ v19 = 0 then gR τ20 64 15 fun r21 => ldI S' τ20 r21 (I 2) fun v22 => stI S' τ20 r21 (I 2) (v22 + (I 1)) fun τ23 => some ((1 : Int32), τ23) else fX13_readGood_b89 S' τ20 := by
    have e2 : ∀ F : Int32 → Option (Int32 × mm), ldI S' (mk R1 v1 rm) 67 2 F = F (I (R1 67 2)) := fun F => ldM67 (z := 2) hS' (by omega)
    unfold fX13_readGood
    rw [show fX13_readFirst S' (mk R v rm) 64 2 6 = _ from mf, bd2_p, if_pos (by decide), gM15 hr', e2, g4.2.2, hk]
    simp only [I_lit, I_add]
    rfl
  have cpre : fX5_readGood S (mk Q w rf) 103 = bd2 (fX5_takeNewName S (mk Q w rf) 103) fun v4 τ5 => if ¬ v4 = 0 then gR τ5 103 1 fun r6 => gR τ5 r6 15 fun r7 => gR τ5 r7 0 fun r8 => gR τ5 103 0 fun r9 => stL S τ5 r8 (I k) (τ5.2.1 r9 7) fun τ10 => gR τ10 103 0 fun r11 => bd0 (fX8_next S τ10 r11) fun τ12 => gR τ12 103 0 fun r13 => gR τ12 r13 8 fun r14 => if r14 = 1 then gR τ12 103 1 fun r15 => gR τ12 r15 15 fun r16 => gR τ12 r16 1 fun r17 => gR τ12 103 1 fun r18 => gR τ12 103 0 fun r19 => bd0 (fX4_glassNamed S τ12 r18 (τ12.2.1 r19 7)) fun v20 => stI S τ12 r17 (I k) v20 fun τ21 => gR τ21 103 1 fun r22 => gR τ21 r22 15 fun r23 => gR τ21 r23 1 fun r24 => ldI S τ21 r24 (I k) fun v25 => if ¬ v25 = (-1 : Int32) then gR τ21 103 0 fun r26 => bd2 (fX8_takeNumber S τ21 r26 (I 0) (I 99)) fun v27 τ28 => if ¬ v27 = 0 then gR τ28 103 1 fun r29 => gR τ28 r29 15 fun r30 => gR τ28 r30 2 fun r31 => gR τ28 103 0 fun r32 => stI S τ28 r31 (I k) (τ28.1 r32 6) fun τ33 => gR τ33 103 0 fun r34 => bd2 (fX8_takeNumber S τ33 r34 (I 0) (I 99)) fun v35 τ36 => if ¬ v35 = 0 then gR τ36 103 1 fun r37 => gR τ36 r37 15 fun r38 => gR τ36 r38 3 fun r39 => gR τ36 103 0 fun r40 => stI S τ36 r39 (I k) (τ36.1 r40 6) fun τ41 => gR τ41 103 1 fun r42 => gR τ41 r42 15 fun r43 => wI τ41 r43 4 ((τ41.1 r43 4) + (I 1)) fun τ44 => some ((1 : Int32), τ44) else some ((0 : Int32), τ36) else some ((0 : Int32), τ28) else gR τ21 103 0 fun r45 => bd2 (fX8_fails S τ21 r45 (I 3)) fun v46 τ47 => rZ v46 (some (v46, τ47)) else gR τ12 103 0 fun r48 => bd2 (fX8_fails S τ12 r48 (I 1)) fun v49 τ50 => rZ v49 (some (v49, τ50)) else some ((0 : Int32), τ5) := by
    unfold fX5_readGood
    rw [gC103_1 hr, gD85_15 hr, nm_eq, c4, if_pos lt]
    rfl
  obtain ⟨Q2, w2, rf2, R2, v2, k1, k2, k3, k4⟩ := NEWP (S := S) (w := w) (slot := 12 + k) hS hS' hr hr' g2 dr1 (by omega)
  have FM2 : FMp R R2 v v2 := FMp_trans FM1 k3
  rcases k4 with ⟨a1, a2, a3, a4, a5, a6, a7, a8⟩ | ⟨a1, a2, a3⟩
  rotate_left
  · rw [a2, bd2_p, if_pos rfl] at mpre
    rw [a1, bd2_p, if_neg (by decide)] at cpre
    exact ⟨Q2, w2, rf2, R2, v2, FCp_of k2, FM2, k1, Or.inr ⟨cpre, mpre, a3⟩⟩
  rw [a1, bd2_p, if_pos (by decide), gC103_1 k1, gD85_15 k1, gD98_0 k1, gC103_0 k1, stD99 hS (by omega), gC103_0 k1, ek, mk_2] at cpre
  generalize hw2 : up2 w2 99 k (w2 65 7) = w2' at cpre
  have r67 : R2 67 = R 67 := by rw [a6, g4.2.2]
  have r24 : R2 64 24 = R 64 24 := by rw [a7, g4.2.1]
  have dr2 : DRF Q2 w2' (v2 72) (R 64 24) (R2 67) := by
    rw [r67]
    refine DRF_nm (row := 99) (slot := 12 + k) (zn := k) (DRF_fc dr k2) (fun a j i1 i2 => ?_) (fun j hj => ?_) (Or.inr (Or.inr ⟨rfl, rfl, by omega⟩))
    · rw [← hw2, up2_out i1]
    · rw [a8 j hj, g4.1]
  have nm2 : nmR (w2' 99 k) (v2 72 (12 + k)) := by rw [← hw2, up2_same]; exact a4
  have FC2 : FCp Q Q2 w w2' rf rf2 := by rw [← hw2]; exact FCp_w (FCp_of k2) (by omega)
  rw [a2, bd2_p, if_neg (by decide), gM15 hr', ldM67 hS' (by omega)] at mpre
  obtain ⟨Q3, w3, rf3, l1, l2, l3, l4, l5⟩ := nextB (S := S) (w := w2') hS hS' k1 hr' a3
  have FC3 : FCp Q Q3 w w3 rf rf3 := FCp_trans FC2 (FCp_of (fc_of l4))
  obtain ⟨t1, -⟩ := TK_k l3.2
  obtain ⟨b, hb, hb2⟩ := TK_st l3.2
  have dr3 := DRF_fc dr2 (fc_of l4)
  have mo := M_isOne (S' := S') (rm := rm) (base := 8) (many := R2 67 1) hr' l3.2
  have pre : ∀ F : Nat → Option (Int32 × mm), gR (mk Q3 w3 rf3) 65 8 F = F b := fun F => gR_mk hb
  rw [l1, bd0_s, gC103_0 l2, pre] at cpre
  by_cases q : b = 1
  rotate_left
  · have m1 := mo.1 (by rw [hb]; intro hh; injection hh; contradiction)
    rw [if_neg q, gC103_0 l2, C_fails, bd2_p] at cpre
    unfold fX13_readOne at mpre
    rw [m1, bd2_p, if_neg (by decide), bd2_p, M_put0, bd2_p, if_pos rfl] at mpre
    exact ⟨failQ Q3 1, w3, rf3, badR R2 1, v2, FCp_trans FC3 (FCp_of (fc_fail fc_refl)), FMp_trans FM2 (FMp_of (fm_bad fm_refl)), l2, Or.inr ⟨cpre, mpre, FAIL_mk l3.2⟩⟩
  obtain ⟨z1, l, z2, z3, z4⟩ := TK_name l3.2 (by rw [hb, q])
  obtain ⟨r1, r2, r3, y1, y2, y3, ⟨y4, y5, y6⟩, ⟨y7, y8, y9⟩⟩ := finds (S := S) (S' := S') (rf := rf3) (rm := rm) hS hS' dr3 z2 z3 z4
  have wn3 := dr3.1
  obtain ⟨-, cn2, -⟩ := C_named l2 dr3.2.1 y4 y5 y6 (by have := wn3.1; omega) (by have := wn3.2.1; omega) (by have := wn3.2.2.1; omega)
  have y2' : -1 ≤ r2 ∧ r2 < 4 := by have := wn3.2.1; omega
  have m1 := mo.2 (by rw [hb, q]) r2 (by omega) (by omega) y8
  rw [if_pos q, gC103_1 l2, gD85_15 l2, gD98_1 l2, gC103_1 l2, gC103_0 l2, mk_2, cn2, bd0_s, stD100 hS (by omega), gC103_1 l2, gD85_15 l2, gD98_1 l2, ldD100 hS (by omega), setR_same, updf_same rfl] at cpre
  have FC3' : FCp Q (setR Q3 100 (updf (Q3 100) k r2)) w w3 rf rf3 := FCp_set FC3 (by omega)
  have sy3' : SYN (setR Q3 100 (updf (Q3 100) k r2)) w3 rf3 (setR R2 64 (updf (R2 64) 13 r2)) v2 n 900 := SYN_q (SYN_13 (x := r2) l3) (fun j _ _ => by rw [setR_ne (by omega)]) (by rw [setR_ne (by omega)]) (fun _ _ _ => rfl) rfl rfl rfl rfl
  by_cases c : r2 = -1
  · rw [ii_t c] at m1
    unfold fX13_readOne at mpre
    rw [m1, bd2_p, if_neg (by decide), bd2_p, M_put0, bd2_p, if_pos rfl] at mpre
    rw [if_neg (fun hn => hn (by rw [c]; rfl)), gC103_0 l2, C_fails, bd2_p] at cpre
    refine ⟨_, w3, rf3, _, v2, ?_, ?_, l2, Or.inr ⟨cpre, mpre, FAIL_mk sy3'.2⟩⟩
    · exact FCp_trans FC3' (FCp_of (fc_fail fc_refl))
    · exact FMp_trans FM2 (FMp_of (fm_bad (fm_set fm_refl (by omega))))
  rw [ii_f c] at m1
  generalize hq3 : setR Q3 100 (updf (Q3 100) k r2) = Q3' at cpre FC3' sy3'
  obtain ⟨R4, v4, h1, h2, h3⟩ := goS (w := w3) hS hS' l2 hr' sy3' (by rw [setR_same, updf_ne (by omega)]; omega)
  have h4 := fmp_dr (fm_of h3)
  have r13 : R4 64 13 = r2 := by rw [h3.2.1 13 (by omega), setR_same, updf_same rfl]
  unfold fX13_readOne at mpre
  rw [m1, bd2_p, if_pos (by decide), h1, bd0_s, bd2_p, M_put1 hS' hr' (by omega), bd2_p, if_neg (by decide), r13] at mpre
  rw [if_pos (fun hh => c ((I_eq (b := -1) (by omega) (by omega)).1 (hh.trans (show (-1 : Int32) = I (-1) from rfl)))), gC103_0 l2] at cpre
  generalize hr4 : setR R4 67 (updf (R4 67) (84 + k) r2) = R4' at mpre
  have FM4 : FMp R R4' v v4 := by
    rw [← hr4]
    exact FMp_67 (FMp_trans (FMp_trans FM2 (FMp_of (fm_set fm_refl (by omega)))) (FMp_of (fm_of h3)))
  have bh4 : BEH S' rm Q3' R4' v4 n 900 := BEH_q h2 (fun _ _ _ => rfl) rfl (fun j _ _ => by rw [← hr4, setR_ne (by omega)]) (by rw [← hr4, setR_ne (by omega)]) rfl
  have n4 : R4' 67 = updf (R 67) (84 + k) r2 := by rw [← hr4, setR_same, h4.2.2, setR_ne (by omega), r67]
  have dr4 : DRF Q3' w3 (v4 72) (R4' 64 24) (R4' 67) := by
    rw [n4, h4.1, ← hr4, setR_ne (a := 67) (b := 64) (by omega), h4.2.1, setR_same, updf_ne (by omega), r24, ← hq3, ← r67]
    exact DRF_u100 dr3 (by omega) (by omega)
  obtain ⟨Q5, w5, rf5, R5, v5, n1, n2, n3⟩ := NUMP (S := S) (w := w3) (lo := 0) (hi := 99) (z := 90 + k) hS hS' l2 hr' bh4 (by omega) (by omega) (by omega)
  rcases n3 with ⟨x1, e1, e2, e3, e4, e5, e6, e7, e8, e9, e10⟩ | ⟨e1, e2, e3, e4⟩
  rotate_left
  · rw [e2, if_pos rfl] at mpre
    rw [e1, bd2_p, if_neg (by decide)] at cpre
    exact ⟨Q5, w5, rf5, R5, v5, FCp_trans FC3' (FCp_of n2), FMp_trans FM4 e3, n1, Or.inr ⟨cpre, mpre, e4⟩⟩
  rw [e4, if_neg (by decide)] at mpre
  rw [e2, bd2_p, if_pos (by decide), gC103_1 n1, gD85_15 n1, gD98_2 n1, gC103_0 n1, mk_1, castI, e3, stD101 hS (by omega), gC103_0 n1] at cpre
  generalize hq5 : setR Q5 101 (updf (Q5 101) k x1) = Q5' at cpre
  have q5o : ∀ a, a ≠ 101 → Q5' a = Q5 a := fun a ha => by rw [← hq5, setR_ne ha]
  have FC5 : FCp Q Q5' w w5 rf rf5 := by rw [← hq5]; exact FCp_set (FCp_trans FC3' (FCp_of n2)) (by omega)
  have bh5 : BEH S' rm Q5' R5 v5 n 900 := BEH_q e5 (fun j _ _ => by rw [q5o 65 (by omega)]) (q5o 66 (by omega)) (fun _ _ _ => rfl) rfl rfl
  have dr5 : DRF Q5' w5 (v5 72) (R5 64 24) (R5 67) := by
    rw [e7, e8, e9, ← hq5]
    exact DRF_u101 (DRF_fc dr4 n2) (by omega) e1
  have FM5 : FMp R R5 v v5 := FMp_trans FM4 e6
  obtain ⟨Q6, w6, rf6, R6, v6, o1, o2, o3⟩ := NUMP (S := S) (w := w5) (lo := 0) (hi := 99) (z := 96 + k) hS hS' n1 hr' bh5 (by omega) (by omega) (by omega)
  rcases o3 with ⟨x2, f1, f2, f3, f4, f5, f6, f7, f8, f9, f10⟩ | ⟨f1, f2, f3, f4⟩
  rotate_left
  · rw [f2, if_neg (by decide)] at mpre
    rw [f1, bd2_p, if_neg (by decide)] at cpre
    exact ⟨Q6, w6, rf6, R6, v6, FCp_trans FC5 (FCp_of o2), FMp_trans FM5 f3, o1, Or.inr ⟨cpre, mpre, f4⟩⟩
  have n6 : R6 67 2 = k := by rw [f7, updf_ne (by omega), e7, updf_ne (by omega), n4, updf_ne (by omega), hk]
  rw [f4, if_pos (by decide), gM15 hr', ldM67 hS' (by omega), n6, I_add, stM67 hS' (by omega)] at mpre
  rw [f2, bd2_p, if_pos (by decide), gC103_1 o1, gD85_15 o1, gD98_3 o1, gC103_0 o1, mk_1, castI, f3, stD102 hS (by omega), gC103_1 o1, gD85_15 o1, mk_1, castI, I_add, wI_mk] at cpre
  have dr6 : DRF (setR Q6 102 (updf (Q6 102) k x2)) w6 (v6 72) (R6 64 24) (R6 67) := by
    rw [f7, f8, f9]
    exact DRF_u102 (DRF_fc dr5 o2) (by omega) f1
  generalize hq6 : setR Q6 102 (updf (Q6 102) k x2) = Q6' at cpre dr6
  have q6o : ∀ a, a ≠ 102 → Q6' a = Q6 a := fun a ha => by rw [← hq6, setR_ne ha]
  have r98 : Q6' 98 4 = k := by
    have : Q6' 98 4 = R6 67 2 := dr6.2.1.1.2.2.1
    rw [this, n6]
  rw [r98, castI] at cpre
  have row100 : Q6' 100 k = r2 := by rw [q6o 100 (by omega), o2.1 100 (by omega), q5o 100 (by omega), n2.1 100 (by omega), ← hq3, setR_same, updf_same rfl]
  have row101 : Q6' 101 k = x1 := by rw [q6o 101 (by omega), o2.1 101 (by omega), ← hq5, setR_same, updf_same rfl]
  have row102 : Q6' 102 k = x2 := by rw [← hq6, setR_same, updf_same rfl]
  have N84 : R6 67 (84 + k) = r2 := by rw [f7, updf_ne (by omega), e7, updf_ne (by omega), n4, updf_same rfl]
  have N90 : R6 67 (90 + k) = x1 := by rw [f7, updf_ne (by omega), e7, updf_same rfl]
  have N96 : R6 67 (96 + k) = x2 := by rw [f7, updf_same rfl]
  have w99 : w6 99 k = w2' 99 k := by rw [o2.2.2.1 99 k (by omega), n2.2.2.1 99 k (by omega), l4.2.2.1 99 k (by omega)]
  have v99 : v6 72 (12 + k) = v2 72 (12 + k) := by rw [f9, e9, h4.1]
  have dr7 := DRF_n2 dr6 (by omega) (by rw [n6, ek, w99, v99]; exact nm2) (by rw [n6, row100, row101, row102, N84, N90, N96]; exact ⟨rfl, rfl, rfl⟩)
  rw [n6] at dr7
  refine ⟨setR Q6' 98 (updf (Q6' 98) 4 (k + 1)), w6, rf6, setR R6 67 (updf (R6 67) 2 (k + 1)), v6, ?_, FMp_67 (FMp_trans FM5 f6), o1, Or.inl ⟨cpre, mpre, ⟨o1, ?_, ?_⟩, ?_⟩⟩
  · refine FCp_set ?_ (by omega)
    rw [← hq6]
    exact FCp_set (FCp_trans FC5 (FCp_of o2)) (by omega)
  · refine BEH_q f5 (fun j _ _ => ?_) ?_ (fun j _ _ => ?_) ?_ rfl
    · rw [setR_ne (by omega), q6o 65 (by omega)]
    · rw [setR_ne (by omega), q6o 66 (by omega)]
    · rw [setR_ne (by omega)]
    · rw [setR_ne (by omega)]
  · rw [setR_same, setR_ne (a := 67) (b := 64) (by omega)]
    exact dr7
  · rw [setR_ne (by omega), q6o 65 (by omega)]
    rw [q5o 65 (by omega)] at f10
    have q33 : Q3' 65 = Q3 65 := by rw [← hq3, setR_ne (by omega)]
    rw [q33] at e10
    unfold wpos at l5
    omega
