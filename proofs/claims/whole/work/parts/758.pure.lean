theorem L_glass {S S' : Nat → Nat × Nat} {Q : Nat → Int → Int} {w : Nat → Nat → Int64} {rf : Nat → Nat → Option Nat} {R : Nat → Int → Int} {v : Nat → Nat → Int64} {rm : Nat → Nat → Option Nat} {n : Int} (hS : SCok S) (hS' : SMok S') (hr : RCok rf) (hr' : RMok rm) (sy : SYN Q w rf R v n 900) (h7 : R 64 7 = 2) (dr : DRF Q w (v 72) (R 64 24) (R 67)) : LO S' rm n Q w rf R v (fX5_readGlass S (mk Q w rf) 103) (fX13_readGlass S' (mk R v rm) 64) := by
  have wf := dr.1
  have wn0 := wf.1
  have wn1 := wf.2.1
  have wwd := wf.2.2.2.2.2.2.2.2.2.2.2.2.2.1
  obtain ⟨R1, v1, g1, g2, g3⟩ := goS (w := w) hS hS' hr hr' sy (by omega)
  have g4 := fmp_dr (fm_of g3)
  have FM1 : FMp R R1 v v1 := FMp_of (fm_of g3)
  have mf := M_readFirst (S' := S') (c := 1) (k := 4) hS' hr' (by omega) (by omega) (by omega) h7 g1
  have c12 : (mk Q w rf).1 85 12 = I (R 67 1) := by rw [mk_1, castI]; exact congrArg I dr.2.1.1.2.1
  by_cases full : R 67 1 = 4
  · rw [ii_t full] at mf
    refine ⟨failQ Q 4, w, rf, badR R 4, v, FCp_of (fc_fail fc_refl), FMp_of (fm_bad fm_refl), hr, Or.inr ⟨?_, ?_, FAIL_mk sy.2⟩⟩
    · unfold fX5_readGlass
      rw [gC103_1 hr, nm_eq, c12, if_neg (by rw [full]; decide), gC103_0 hr, I_lit, C_fails, bd2_p]
      rfl
    · unfold fX13_readGlass
      rw [show fX13_readFirst S' (mk R v rm) 64 1 4 = _ from mf, bd2_p]
      rfl
  rw [ii_f full] at mf
  obtain ⟨k, hk⟩ : ∃ k : Nat, R 67 1 = k := ⟨(R 67 1).toNat, by omega⟩
  have hk4 : k < 4 := by omega
  have ek : ((k : Int)).toNat = k := by omega
  rw [hk] at c12
  have lt : I (k : Int) < (4 : Int32) := by rw [I_lit, I_lt (by omega) (by omega)]; omega
  have dr1 : DRF Q w (v1 72) (R1 64 24) (R1 67) := by rw [g4.1, g4.2.1, g4.2.2]; exact dr
  have mpre : fX13_readGlass S' (mk R v rm) 64 = bd2 (fX13_readNew S' (mk R1 v1 rm) 64 (I ((8 + k : Nat) : Int))) fun v5 τ6 => if v5 = 0 then fX13_readGlass_b43 S' τ6 else gR τ6 64 15 fun r7 => ldI S' τ6 r7 (I 0) fun v8 => bd2 (fX13_isOne S' τ6 64 (I 0) v8) fun v9 τ10 => if ¬ v9 = 0 then nm (τ10.1 64 13) fun v11 => gR τ10 64 15 fun r12 => ldI S' τ10 r12 ((I 48) + v11) fun v13 => if v13 = (-1 : Int32) then bd0 (fX13_go S' τ10 64) fun τ14 => gR τ14 64 15 fun r15 => ldI S' τ14 r15 (I 0) fun v16 => bd2 (fX13_isOne S' τ14 64 (I 0) v16) fun v17 τ18 => if ¬ v17 = 0 then nm (τ18.1 64 13) fun v19 => if v11 = v19 then fX13_readGlass_b112 S' τ18 64 else gR τ18 64 15 fun r20 => ldI S' τ18 r20 ((I 48) + v19) fun v21 => if v21 = (-1 : Int32) then bd0 (fX13_go S' τ18 64) fun τ22 => bd2 (fX13_readNumber S' τ22 64 (I 1) (I 250)) fun v23 τ24 => bd2 (fX13_put S' τ24 64 (I (64 + k)) v23) fun v25 τ26 => if v25 = 0 then fX13_readGlass_b159 S' τ26 else bd2 (fX13_readNumber S' τ26 64 (I 1) (I 9)) fun v27 τ28 => bd2 (fX13_put S' τ28 64 (I (68 + k)) v27) fun v29 τ30 => if ¬ v29 = 0 then gR τ30 64 15 fun r31 => stI S' τ30 r31 (I (56 + k)) v11 fun τ32 => gR τ32 64 15 fun r33 => stI S' τ32 r33 (I (60 + k)) v19 fun τ34 => gR τ34 64 15 fun r35 => stI S' τ34 r35 ((I 48) + v11) (I k) fun τ36 => gR τ36 64 15 fun r37 => stI S' τ36 r37 ((I 48) + v19) (I k) fun τ38 => gR τ38 64 15 fun r39 => ldI S' τ38 r39 (I 1) fun v40 => stI S' τ38 r39 (I 1) (v40 + (I 1)) fun τ41 => some ((1 : Int32), τ41) else fX13_readGlass_b159 S' τ30 else fX13_readGlass_b112 S' τ18 64 else some ((0 : Int32), τ18) else bd2 (fX13_bad S' τ10 64 (I 3)) fun v42 τ43 => rZ v42 (some (v42, τ43)) else fX13_readGlass_b43 S' τ10 := by
    have e1 : ∀ F : Int32 → Option (Int32 × mm), ldI S' (mk R1 v1 rm) 67 1 F = F (I (R1 67 1)) := fun F => ldM67 (z := 1) hS' (by omega)
    unfold fX13_readGlass
    rw [show fX13_readFirst S' (mk R v rm) 64 1 4 = _ from mf, bd2_p, if_pos (by decide), gM15 hr', e1, g4.2.2, hk]
    simp only [show (8 : Int32) = I 8 from rfl, show (64 : Int32) = I 64 from rfl, show (68 : Int32) = I 68 from rfl, show (56 : Int32) = I 56 from rfl, show (60 : Int32) = I 60 from rfl, I_add]
    rfl
  have cpre : fX5_readGlass S (mk Q w rf) 103 = bd2 (fX5_takeNewName S (mk Q w rf) 103) fun v3 τ4 => if ¬ v3 = 0 then gR τ4 103 1 fun r5 => gR τ4 r5 7 fun r6 => gR τ4 103 0 fun r7 => stL S τ4 r6 (I k) (τ4.2.1 r7 7) fun τ8 => bd2 (fX5_readPair S τ8 103 (I k)) fun v9 τ10 => if v9 = 0 then fX5_readGlass_b69 S τ10 else gR τ10 103 0 fun r11 => bd2 (fX8_takeNumber S τ10 r11 (I 1) (I 250)) fun v12 τ13 => if ¬ v12 = 0 then gR τ13 103 1 fun r14 => gR τ13 r14 10 fun r15 => gR τ13 103 0 fun r16 => stI S τ13 r15 (I k) (τ13.1 r16 6) fun τ17 => gR τ17 103 0 fun r18 => bd2 (fX8_takeNumber S τ17 r18 (I 1) (I 9)) fun v19 τ20 => if ¬ v19 = 0 then gR τ20 103 1 fun r21 => gR τ20 r21 11 fun r22 => gR τ20 103 0 fun r23 => stI S τ20 r22 (I k) (τ20.1 r23 6) fun τ24 => gR τ24 103 1 fun r25 => wI τ24 r25 12 ((τ24.1 r25 12) + (I 1)) fun τ26 => some ((1 : Int32), τ26) else some ((0 : Int32), τ20) else fX5_readGlass_b69 S τ13 else some ((0 : Int32), τ4) := by
    unfold fX5_readGlass
    rw [gC103_1 hr, nm_eq, c12, if_pos lt]
    rfl
  obtain ⟨Q2, w2, rf2, R2, v2, k1, k2, k3, k4⟩ := NEWP (S := S) (w := w) (slot := 8 + k) hS hS' hr hr' g2 dr1 (by omega)
  have FM2 : FMp R R2 v v2 := FMp_trans FM1 k3
  rcases k4 with ⟨a1, a2, a3, a4, a5, a6, a7, a8⟩ | ⟨a1, a2, a3⟩
  rotate_left
  · rw [a2, bd2_p, if_pos rfl] at mpre
    rw [a1, bd2_p, if_neg (by decide)] at cpre
    exact ⟨Q2, w2, rf2, R2, v2, FCp_of k2, FM2, k1, Or.inr ⟨cpre, mpre, a3⟩⟩
  rw [a1, bd2_p, if_pos (by decide), gC103_1 k1, gD85_7 k1, gC103_0 k1, stD92 hS (by omega), ek, mk_2] at cpre
  generalize hw2 : up2 w2 92 k (w2 65 7) = w2' at cpre
  have r67 : R2 67 = R 67 := by rw [a6, g4.2.2]
  have r24 : R2 64 24 = R 64 24 := by rw [a7, g4.2.1]
  have dr2 : DRF Q2 w2' (v2 72) (R 64 24) (R2 67) := by
    rw [r67]
    refine DRF_nm (row := 92) (slot := 8 + k) (zn := k) (DRF_fc dr k2) (fun a j i1 i2 => ?_) (fun j hj => ?_) (Or.inr (Or.inl ⟨rfl, rfl, by omega, hk4⟩))
    · rw [← hw2, up2_out i1]
    · rw [a8 j hj, g4.1]
  have nm2 : nmR (w2' 92 k) (v2 72 (8 + k)) := by rw [← hw2, up2_same]; exact a4
  have FC2 : FCp Q Q2 w w2' rf rf2 := by rw [← hw2]; exact FCp_w (FCp_of k2) (by omega)
  rw [a2, bd2_p, if_neg (by decide), gM15 hr', ldM67 hS' (by omega)] at mpre
  obtain ⟨Q3, w3, rf3, R3, v3, l1, l2, l3, lv, l4⟩ := ONE (S := S) (w := w2') hS hS' k1 hr' a3 dr2
  subst lv
  have FC3 : FCp Q Q3 w w3 rf rf3 := FCp_trans FC2 (FCp_of l2)
  have FM3 : FMp R R3 v v3 := FMp_trans FM2 (FMp_of l3)
  rcases l4 with ⟨p, b1, b2', b3, b4, b5, b6, b7, b8⟩ | ⟨b1, b2', b3⟩
  rotate_left
  · unfold fX5_readPair at cpre
    rw [b1, bd2_p, if_neg (by decide), bd2_p, if_pos rfl] at cpre
    rw [b2', bd2_p, if_neg (by decide)] at mpre
    exact ⟨Q3, w3, rf3, R3, v3, FC3, FM3, l1, Or.inr ⟨cpre, mpre, b3⟩⟩
  have pN : p < R 67 0 := by rw [r67] at b2'; exact b2'
  have hm1 : (-1 : Int32) = I (-1) := rfl
  have nep : ¬ (I p = -1) := fun hh => by
    have := (I_eq (a := p) (b := -1) (by omega) (by omega)).1 (hh.trans hm1)
    omega
  have r367 : R3 67 = R 67 := by rw [(fmp_dr l3).2.2, r67]
  have dr3 : DRF Q3 w3 (v3 72) (R 64 24) (R3 67) := by
    rw [(fmp_dr l3).2.2]; exact DRF_fc dr2 l2
  have go3 := C_glassOf (S := S) (w := w3) (x := 85) hS l1 isPar85 dr3.1 dr3.2.1 (p := p) (by rw [r367]; omega)
  rw [r367] at go3
  have wp := wwd p b1 (by omega)
  have e13 : (mk R3 v3 rm).1 64 13 = I p := by rw [mk_1, castI, b6]
  rw [b4, bd2_p, if_pos (by decide), nm_eq, e13, gM15 hr', I_add, ldM67 hS' (by omega), r367] at mpre
  unfold fX5_readPair at cpre
  rw [b3, bd2_p, if_pos nep, gC103_1 l1, go3, bd0_s] at cpre
  by_cases wa : R 67 (48 + p) = -1
  rotate_left
  · have nw : ¬ (I (R 67 (48 + p)) = -1) := fun hh => wa ((I_eq (b := -1) (by omega) (by omega)).1 (hh.trans hm1))
    rw [if_neg nw, M_bad (by omega) (by omega), bd2_p] at mpre
    rw [if_neg nw, gC103_0 l1, show (3 : Int32) = I 3 from rfl, C_fails, bd2_p] at cpre
    exact ⟨failQ Q3 3, w3, rf3, badR R3 3, v3, FCp_trans FC3 (FCp_of (fc_fail fc_refl)), FMp_trans FM3 (FMp_of (fm_bad fm_refl)), l1, Or.inr ⟨cpre, mpre, FAIL_mk b5.2⟩⟩
  obtain ⟨R4, v4, h1, h2, h3⟩ := goS (w := w3) hS hS' l1 hr' b5 (by omega)
  have h4 := fmp_dr (fm_of h3)
  have r467 : R4 67 = R 67 := by rw [h4.2.2, r367]
  have FM4 : FMp R R4 v v4 := FMp_trans FM3 (FMp_of (fm_of h3))
  have dr4 : DRF Q3 w3 (v4 72) (R 64 24) (R4 67) := by rw [h4.1, h4.2.2]; exact dr3
  rw [wa, if_pos (by decide), h1, bd0_s, gM15 hr', ldM67 hS' (by omega)] at mpre
  rw [wa, if_pos (by decide)] at cpre
  obtain ⟨Q5, w5, rf5, R5, v5, m1, m2, m3, mv, m4⟩ := ONE (S := S) (w := w3) hS hS' l1 hr' h2 dr4
  subst mv
  have FC5 : FCp Q Q5 w w5 rf rf5 := FCp_trans FC3 (FCp_of m2)
  have FM5 : FMp R R5 v v5 := FMp_trans FM4 (FMp_of m3)
  rcases m4 with ⟨q, d1, d2, d3, d4, d5, d6, d7, d8⟩ | ⟨d1, d2, d3⟩
  rotate_left
  · rw [d1, bd2_p, if_neg (by decide), bd2_p, if_pos rfl] at cpre
    rw [d2, bd2_p, if_neg (by decide)] at mpre
    exact ⟨Q5, w5, rf5, R5, v5, FC5, FM5, m1, Or.inr ⟨cpre, mpre, d3⟩⟩
  have qN : q < R 67 0 := by rw [r467] at d2; exact d2
  have neq : ¬ (I q = -1) := fun hh => by
    have := (I_eq (a := q) (b := -1) (by omega) (by omega)).1 (hh.trans hm1)
    omega
  have r567 : R5 67 = R 67 := by rw [(fmp_dr m3).2.2, r467]
  have dr5 : DRF Q5 w5 (v5 72) (R 64 24) (R5 67) := by
    rw [(fmp_dr m3).2.2]; exact DRF_fc dr4 m2
  have go5 := C_glassOf (S := S) (w := w5) (x := 85) hS m1 isPar85 dr5.1 dr5.2.1 (p := q) (by rw [r567]; omega)
  rw [r567] at go5
  have wq := wwd q d1 (by omega)
  have f13 : (mk R5 v5 rm).1 64 13 = I q := by rw [mk_1, castI, d6]
  rw [d4, bd2_p, if_pos (by decide), nm_eq, f13] at mpre
  rw [d3, bd2_p, if_pos neq] at cpre
  have eb62 : fX5_readPair_b62 S (mk Q5 w5 rf5) 103 = some (0, mk (failQ Q5 3) w5 rf5) := by
    unfold fX5_readPair_b62
    rw [gC103_0 m1, show (3 : Int32) = I 3 from rfl, C_fails, bd2_p]
    rfl
  have eb112 : fX13_readGlass_b112 S' (mk R5 v5 rm) 64 = some (0, mk (badR R5 3) v5 rm) := by
    unfold fX13_readGlass_b112
    rw [show (3 : Int32) = I 3 from rfl, M_bad (by omega) (by omega), bd2_p]
    rfl
  have bad5 : FCp Q (failQ Q5 3) w w5 rf rf5 ∧ FMp R (badR R5 3) v v5 ∧ FAIL (failQ Q5 3) (badR R5 3) := ⟨FCp_trans FC5 (FCp_of (fc_fail fc_refl)), FMp_trans FM5 (FMp_of (fm_bad fm_refl)), FAIL_mk d5.2⟩
  by_cases pq : p = q
  · rw [if_pos (by rw [pq]), eb112] at mpre
    rw [if_pos (by rw [pq]), eb62, bd2_p, if_pos rfl] at cpre
    exact ⟨failQ Q5 3, w5, rf5, badR R5 3, v5, bad5.1, bad5.2.1, m1, Or.inr ⟨cpre, mpre, bad5.2.2⟩⟩
  rw [if_neg (fun hh => pq ((I_eq (by omega) (by omega)).1 hh)), gM15 hr', I_add, ldM67 hS' (by omega), r567] at mpre
  rw [if_neg (fun hh => pq ((I_eq (by omega) (by omega)).1 hh).symm), gC103_1 m1, go5, bd0_s] at cpre
  by_cases wb : R 67 (48 + q) = -1
  rotate_left
  · have nw : ¬ (I (R 67 (48 + q)) = -1) := fun hh => wb ((I_eq (b := -1) (by omega) (by omega)).1 (hh.trans hm1))
    rw [if_neg nw, eb112] at mpre
    rw [if_neg nw, eb62, bd2_p, if_pos rfl] at cpre
    exact ⟨failQ Q5 3, w5, rf5, badR R5 3, v5, bad5.1, bad5.2.1, m1, Or.inr ⟨cpre, mpre, bad5.2.2⟩⟩
  rw [wb, if_pos (by decide)] at mpre
  rw [wb, if_pos (by decide), gC103_1 m1, gD85_8 m1, stD93 hS (by omega), gC103_1 m1, gD85_9 m1, stD94 hS (by omega), bd2_p, if_neg (by decide), gC103_0 m1] at cpre
  have drX := DRF_o93 (x := p) (z := k) dr5 (by rw [r567]; omega)
  have dr6 := DRF_o94 (x := q) (z := k) drX (by rw [r567]; omega)
  generalize hq6 : setR (setR Q5 93 (updf (Q5 93) k p)) 94 (updf (setR Q5 93 (updf (Q5 93) k p) 94) k q) = Q6 at cpre dr6
  have q6o : ∀ a, a ≠ 93 → a ≠ 94 → Q6 a = Q5 a := fun a ha hb => by rw [← hq6, setR_ne hb, setR_ne ha]
  have FC6 : FCp Q Q6 w w5 rf rf5 := by rw [← hq6]; exact FCp_set (FCp_set FC5 (by omega)) (by omega)
  have sy6 : SYN Q6 w5 rf5 R5 v5 n 900 := SYN_q d5 (fun j _ _ => by rw [q6o 65 (by omega) (by omega)]) (q6o 66 (by omega) (by omega)) (fun _ _ _ => rfl) rfl rfl rfl rfl
  obtain ⟨R6, v6, i1, i2, i3⟩ := goS (w := w5) hS hS' m1 hr' sy6 (by omega)
  have i4 := fmp_dr (fm_of i3)
  have r667 : R6 67 = R 67 := by rw [i4.2.2, r567]
  have r624 : R6 64 24 = R 64 24 := by rw [i4.2.1, (fmp_dr m3).2.1, h4.2.1, (fmp_dr l3).2.1, r24]
  have FM6 : FMp R R6 v v6 := FMp_trans FM5 (FMp_of (fm_of i3))
  rw [i1, bd0_s] at mpre
  have dr6' : DRF Q6 w5 (v6 72) (R6 64 24) (R6 67) := by rw [i4.1, r624, i4.2.2]; exact dr6
  obtain ⟨Q7, w7, rf7, R7, v7, n1, n2, n3⟩ := NUMP (S := S) (w := w5) (lo := 1) (hi := 250) (z := 64 + k) hS hS' m1 hr' i2 (by omega) (by omega) (by omega)
  rcases n3 with ⟨x1, e1, e2, e3, e4, e5, e6, e7, e8, e9, e10⟩ | ⟨e1, e2, e3, e4⟩
  rotate_left
  · rw [e2, if_pos rfl] at mpre
    rw [e1, bd2_p, if_neg (by decide)] at cpre
    exact ⟨Q7, w7, rf7, R7, v7, FCp_trans FC6 (FCp_of n2), FMp_trans FM6 e3, n1, Or.inr ⟨cpre, mpre, e4⟩⟩
  rw [e4, if_neg (by decide)] at mpre
  rw [e2, bd2_p, if_pos (by decide), gC103_1 n1, gD85_10 n1, gC103_0 n1, mk_1, castI, e3, stD95 hS (by omega), gC103_0 n1] at cpre
  generalize hq7 : setR Q7 95 (updf (Q7 95) k x1) = Q7' at cpre
  have q7o : ∀ a, a ≠ 95 → Q7' a = Q7 a := fun a ha => by rw [← hq7, setR_ne ha]
  have FC7 : FCp Q Q7' w w7 rf rf7 := by rw [← hq7]; exact FCp_set (FCp_trans FC6 (FCp_of n2)) (by omega)
  have bh7 : BEH S' rm Q7' R7 v7 n 900 := BEH_q e5 (fun j _ _ => by rw [q7o 65 (by omega)]) (q7o 66 (by omega)) (fun _ _ _ => rfl) rfl rfl
  have dr7 : DRF Q7' w7 (v7 72) (R7 64 24) (R7 67) := by
    rw [e7, e8, e9, ← hq7]
    exact DRF_u95 (DRF_fc dr6' n2) (by omega) e1
  have FM7 : FMp R R7 v v7 := FMp_trans FM6 e6
  obtain ⟨Q8, w8, rf8, R8, v8, o1, o2, o3⟩ := NUMP (S := S) (w := w7) (lo := 1) (hi := 9) (z := 68 + k) hS hS' n1 hr' bh7 (by omega) (by omega) (by omega)
  rcases o3 with ⟨x2, f1, f2, f3, f4, f5, f6, f7, f8, f9, f10⟩ | ⟨f1, f2, f3, f4⟩
  rotate_left
  · rw [f2, if_neg (by decide)] at mpre
    rw [f1, bd2_p, if_neg (by decide)] at cpre
    exact ⟨Q8, w8, rf8, R8, v8, FCp_trans FC7 (FCp_of o2), FMp_trans FM7 f3, o1, Or.inr ⟨cpre, mpre, f4⟩⟩
  have n8 : R8 67 = updf (updf (R 67) (64 + k) x1) (68 + k) x2 := by rw [f7, e7, r667]
  have n81 : R8 67 1 = k := by rw [n8, updf_ne (by omega), updf_ne (by omega), hk]
  have n80 : R8 67 0 = R 67 0 := by rw [n8, updf_ne (by omega), updf_ne (by omega)]
  have dr8 : DRF (setR Q8 96 (updf (Q8 96) k x2)) w8 (v8 72) (R8 64 24) (R8 67) := by
    rw [f7, f8, f9]
    exact DRF_u96 (DRF_fc dr7 o2) (by omega) f1
  have mgl : setR (setR (setR (setR (setR R8 67 (updf (R8 67) (56 + k) p)) 67 (updf (updf (R8 67) (56 + k) p) (60 + k) q)) 67 (updf (updf (updf (R8 67) (56 + k) p) (60 + k) q) (48 + p) k)) 67 (updf (updf (updf (updf (R8 67) (56 + k) p) (60 + k) q) (48 + p) k) (48 + q) k)) 67 (updf (updf (updf (updf (updf (R8 67) (56 + k) p) (60 + k) q) (48 + p) k) (48 + q) k) 1 (k + 1)) = setR R8 67 (glA (R8 67) p q) := by
    unfold glA
    rw [n81, setR_setR, setR_setR, setR_setR, setR_setR]
  have u1 : updf (updf (updf (updf (R8 67) (56 + k) p) (60 + k) q) (48 + p) k) (48 + q) k 1 = k := by rw [updf_ne (by omega), updf_ne (by omega), updf_ne (by omega), updf_ne (by omega), n81]
  rw [f4, if_pos (by decide), gM15 hr', stM67 hS' (by omega), gM15 hr', stM67 hS' (by omega), gM15 hr', stM67 hS' (by omega), gM15 hr', stM67 hS' (by omega), gM15 hr', ldM67 hS' (by omega), setR_same, setR_same, setR_same, setR_same, u1, I_add, stM67 hS' (by omega), setR_same, mgl] at mpre
  rw [f2, bd2_p, if_pos (by decide), gC103_1 o1, gD85_11 o1, gC103_0 o1, mk_1, castI, f3, stD96 hS (by omega), gC103_1 o1, mk_1, castI, I_add, wI_mk] at cpre
  generalize hq8 : setR Q8 96 (updf (Q8 96) k x2) = Q8' at cpre dr8
  have q8o : ∀ a, a ≠ 96 → Q8' a = Q8 a := fun a ha => by rw [← hq8, setR_ne ha]
  have r85 : Q8' 85 12 = k := by
    have : Q8' 85 12 = R8 67 1 := dr8.2.1.1.2.1
    rw [this, n81]
  rw [r85, castI] at cpre
  have row93 : Q8' 93 k = p := by rw [q8o 93 (by omega), o2.1 93 (by omega), q7o 93 (by omega), n2.1 93 (by omega), ← hq6, setR_ne (by omega), setR_same, updf_same rfl]
  have row94 : Q8' 94 k = q := by rw [q8o 94 (by omega), o2.1 94 (by omega), q7o 94 (by omega), n2.1 94 (by omega), ← hq6, setR_same, updf_same rfl]
  have row95 : Q8' 95 k = x1 := by rw [q8o 95 (by omega), o2.1 95 (by omega), ← hq7, setR_same, updf_same rfl]
  have row96 : Q8' 96 k = x2 := by rw [← hq8, setR_same, updf_same rfl]
  have N64 : R8 67 (64 + k) = x1 := by rw [n8, updf_ne (by omega), updf_same rfl]
  have N68 : R8 67 (68 + k) = x2 := by rw [n8, updf_same rfl]
  have N48p : R8 67 (48 + p) = -1 := by rw [n8, updf_ne (by omega), updf_ne (by omega), wa]
  have N48q : R8 67 (48 + q) = -1 := by rw [n8, updf_ne (by omega), updf_ne (by omega), wb]
  have w92 : w8 92 k = w2' 92 k := by rw [o2.2.2.1 92 k (by omega), n2.2.2.1 92 k (by omega), m2.2.2.1 92 k (by omega), l2.2.2.1 92 k (by omega)]
  have v92 : v8 72 (8 + k) = v3 72 (8 + k) := by rw [f9, e9, i4.1, h4.1]
  have dr9 := DRF_gl (a := p) (b := q) dr8 (by omega) (by omega) (by omega) pq N48p N48q (by rw [n81, N64]; omega) (by rw [n81, N68]; omega) (by rw [n81, ek, w92, v92]; exact nm2) (by rw [n81, row93, row94, row95, row96, N64, N68]; exact ⟨rfl, rfl, rfl, rfl⟩)
  rw [n81] at dr9
  refine ⟨setR Q8' 85 (updf (Q8' 85) 12 (k + 1)), w8, rf8, setR R8 67 (glA (R8 67) p q), v8, ?_, FMp_67 (FMp_trans FM7 f6), o1, Or.inl ⟨cpre, mpre, ⟨o1, ?_, ?_⟩, ?_⟩⟩
  · refine FCp_set ?_ (by omega)
    rw [← hq8]
    exact FCp_set (FCp_trans FC7 (FCp_of o2)) (by omega)
  · refine BEH_q f5 (fun j _ _ => ?_) ?_ (fun j _ _ => ?_) ?_ rfl
    · rw [setR_ne (by omega), q8o 65 (by omega)]
    · rw [setR_ne (by omega), q8o 66 (by omega)]
    · rw [setR_ne (by omega)]
    · rw [setR_ne (by omega)]
  · rw [setR_same, setR_ne (a := 67) (b := 64) (by omega)]
    exact dr9
  · rw [setR_ne (by omega), q8o 65 (by omega)]
    rw [q7o 65 (by omega)] at f10
    rw [q6o 65 (by omega) (by omega)] at e10
    omega
