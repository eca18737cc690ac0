theorem L_warm90 {S S' : Nat → Nat × Nat} {Q : Nat → Int → Int} {w : Nat → Nat → Int64} {rf : Nat → Nat → Option Nat} {R : Nat → Int → Int} {v : Nat → Nat → Int64} {rm : Nat → Nat → Option Nat} {n : Int} (hS : SCok S) (hS' : SMok S') (hr : RCok rf) (hr' : RMok rm) (sy : SYN Q w rf R v n 900) (h7 : R 64 7 = 2) (dr : DRF Q w (v 72) (R 64 24) (R 67)) : LO S' rm n Q w rf R v (fX5_readWarmth S (mk Q w rf) 103 90) (fX13_readFonder S' (mk R v rm) 64 (I 32)) := by
  have wf := dr.1
  have wn0 := wf.1
  obtain ⟨R1, v1, g1, g2, g3⟩ := goS (w := w) hS hS' hr hr' sy (by omega)
  have g4 := fmp_dr (fm_of g3)
  have dr1 : DRF Q w (v1 72) (R1 64 24) (R1 67) := by rw [g4.1, g4.2.1, g4.2.2]; exact dr
  have FM1 : FMp R R1 v v1 := FMp_of (fm_of g3)
  obtain ⟨Q2, w2, rf2, R2, v2, k1, k2, k3, kv, k4⟩ := ONE (S := S) (w := w) hS hS' hr hr' g2 dr1
  subst kv
  have FM2 : FMp R R2 v v2 := FMp_trans FM1 (FMp_of k3)
  have mpre : fX13_readFonder S' (mk R v rm) 64 (I 32) = bd2 (fX13_isOne S' (mk R1 v2 rm) 64 (I 0) (I (R1 67 0))) fun v4 τ5 => if ¬ v4 = 0 then nm (τ5.1 64 13) fun v6 => gR τ5 64 15 fun r7 => ldI S' τ5 r7 (I 32 + v6) fun v8 => if v8 ≤ 0 then bd0 (fX13_go S' τ5 64) fun τ9 => bd2 (fX13_readNumber S' τ9 64 (I 1) (I 9)) fun v10 τ11 => bd2 (fX13_put S' τ11 64 (I 32 + v6) v10) fun v12 τ13 => rZ v12 (some (v12, τ13)) else bd2 (fX13_bad S' τ5 64 (I 3)) fun v14 τ15 => rZ v14 (some (v14, τ15)) else some ((0 : Int32), τ5) := by
    unfold fX13_readFonder
    rw [g1, bd0_s, gM15 hr']
    exact ldM67 (z := 0) hS' (by omega)
  rcases k4 with ⟨p, a1, a2, a3, a4, a5, a6, a7, a8⟩ | ⟨a1, a2, a3⟩
  rotate_left
  · refine ⟨Q2, w2, rf2, R2, v2, FCp_of k2, FM2, k1, Or.inr ⟨?_, ?_, a3⟩⟩
    · unfold fX5_readWarmth
      rw [a1, bd2_p, if_neg (by decide)]
    · rw [mpre, a2, bd2_p, if_neg (by decide)]
  have pb := a2
  rw [g4.2.2] at pb
  have ne1 : ¬ (I p = -1) := fun hh => by
    have := (I_eq (a := p) (b := -1) (by omega) (by omega)).1 (hh.trans (show (-1 : Int32) = I (-1) from rfl))
    omega
  have dr2 : DRF Q2 w2 (v2 72) (R2 64 24) (R2 67) := by
    rw [(fmp_dr k3).2.1, (fmp_dr k3).2.2]; exact DRF_fc dr1 k2
  have r67 : R2 67 = R 67 := by rw [(fmp_dr k3).2.2, g4.2.2]
  have e13 : (mk R2 v2 rm).1 64 13 = I p := by rw [mk_1, castI, a6]
  have cx : Q2 90 p = R 67 (32 + p) := by
    have := dr2.2.1.2.1 p a1 (by rw [r67]; exact pb)
    rw [r67] at this
    exact this.2.2.2.1
  have wx := wf.2.2.2.2.2.2.2.2.2.2.2.1 p a1 (by omega)
  rw [a4, bd2_p, if_pos (by decide), nm_eq, e13, gM15 hr', I_add, ldM67 hS' (by omega), r67] at mpre
  have cpre : fX5_readWarmth S (mk Q w rf) 103 90 = if I (R 67 (32 + p)) = 0 then bd2 (fX8_takeNumber S (mk Q2 w2 rf2) 65 (I 1) (I 9)) fun v5 τ6 => if ¬ v5 = 0 then gR τ6 103 0 fun r7 => stI S τ6 90 (I p) (τ6.1 r7 6) fun τ8 => some ((1 : Int32), τ8) else some ((0 : Int32), τ6) else bd2 (fX8_fails S (mk Q2 w2 rf2) 65 (I 3)) fun v10 τ11 => rZ v10 (some (v10, τ11)) := by
    unfold fX5_readWarmth
    rw [a3, bd2_p, if_pos ne1, ldD90 hS (by omega), gC103_0 k1, gC103_0 k1, cx]
    rfl
  by_cases full : R 67 (32 + p) = 0
  rotate_left
  · have ne2 : ¬ (I (R 67 (32 + p)) = 0) := fun hh => full ((I_eq (b := 0) (by omega) (by omega)).1 hh)
    have ne3 : ¬ (I (R 67 (32 + p)) ≤ 0) := fun hh => by
      have := (I_le (b := 0) (by omega) (by omega)).1 hh
      omega
    rw [if_neg ne2, C_fails, bd2_p] at cpre
    rw [if_neg ne3, M_bad (by omega) (by omega), bd2_p] at mpre
    exact ⟨failQ Q2 3, w2, rf2, badR R2 3, v2, FCp_of (fc_fail k2), FMp_trans FM2 (FMp_of (fm_bad fm_refl)), k1, Or.inr ⟨cpre, mpre, FAIL_mk a5.2⟩⟩
  obtain ⟨R3, v3, h1, h2, h3⟩ := goS (w := w2) hS hS' k1 hr' a5 (by omega)
  have h4 := fmp_dr (fm_of h3)
  have FM3 : FMp R R3 v v3 := FMp_trans FM2 (FMp_of (fm_of h3))
  rw [full, if_pos (by decide)] at cpre
  rw [full, if_pos (by decide), h1, bd0_s] at mpre
  obtain ⟨Q4, w4, rf4, R4, v4, l1, l2, l3⟩ := NUMP (S := S) (w := w2) (lo := 1) (hi := 9) (z := 32 + p) hS hS' k1 hr' h2 (by omega) (by omega) (by omega)
  rcases l3 with ⟨x1, b1, b2', b3, b4, b5, b6, b7, b8, b9, b10⟩ | ⟨b1, b2', b3, b4⟩
  rotate_left
  · rw [b2'] at mpre
    rw [b1, bd2_p, if_neg (by decide)] at cpre
    exact ⟨Q4, w4, rf4, R4, v4, FCp_of (fc_trans k2 l2), FMp_trans FM3 b3, l1, Or.inr ⟨cpre, mpre, b4⟩⟩
  rw [b4] at mpre
  rw [b2', bd2_p, if_pos (by decide), gC103_0 l1, mk_1, castI, b3, stD90 hS (by omega)] at cpre
  refine ⟨setR Q4 90 (updf (Q4 90) p x1), w4, rf4, R4, v4, FCp_set (FCp_of (fc_trans k2 l2)) (by omega), FMp_trans FM3 b6, l1, Or.inl ⟨cpre, mpre, ⟨l1, ?_, ?_⟩, ?_⟩⟩
  · exact BEH_q b5 (fun j _ _ => by rw [setR_ne (by omega)]) (by rw [setR_ne (by omega)]) (fun _ _ _ => rfl) rfl rfl
  · rw [b7, b8, b9, h4.1, h4.2.1, h4.2.2]
    exact DRF_u90 (DRF_fc dr2 l2) (by rw [r67]; omega) (by omega)
  · rw [setR_ne (by omega)]
    omega

theorem L_warm91 {S S' : Nat → Nat × Nat} {Q : Nat → Int → Int} {w : Nat → Nat → Int64} {rf : Nat → Nat → Option Nat} {R : Nat → Int → Int} {v : Nat → Nat → Int64} {rm : Nat → Nat → Option Nat} {n : Int} (hS : SCok S) (hS' : SMok S') (hr : RCok rf) (hr' : RMok rm) (sy : SYN Q w rf R v n 900) (h7 : R 64 7 = 2) (dr : DRF Q w (v 72) (R 64 24) (R 67)) : LO S' rm n Q w rf R v (fX5_readWarmth S (mk Q w rf) 103 91) (fX13_readFonder S' (mk R v rm) 64 (I 40)) := by
  have wf := dr.1
  have wn0 := wf.1
  obtain ⟨R1, v1, g1, g2, g3⟩ := goS (w := w) hS hS' hr hr' sy (by omega)
  have g4 := fmp_dr (fm_of g3)
  have dr1 : DRF Q w (v1 72) (R1 64 24) (R1 67) := by rw [g4.1, g4.2.1, g4.2.2]; exact dr
  have FM1 : FMp R R1 v v1 := FMp_of (fm_of g3)
  obtain ⟨Q2, w2, rf2, R2, v2, k1, k2, k3, kv, k4⟩ := ONE (S := S) (w := w) hS hS' hr hr' g2 dr1
  subst kv
  have FM2 : FMp R R2 v v2 := FMp_trans FM1 (FMp_of k3)
  have mpre : fX13_readFonder S' (mk R v rm) 64 (I 40) = bd2 (fX13_isOne S' (mk R1 v2 rm) 64 (I 0) (I (R1 67 0))) fun v4 τ5 => if ¬ v4 = 0 then nm (τ5.1 64 13) fun v6 => gR τ5 64 15 fun r7 => ldI S' τ5 r7 (I 40 + v6) fun v8 => if v8 ≤ 0 then bd0 (fX13_go S' τ5 64) fun τ9 => bd2 (fX13_readNumber S' τ9 64 (I 1) (I 9)) fun v10 τ11 => bd2 (fX13_put S' τ11 64 (I 40 + v6) v10) fun v12 τ13 => rZ v12 (some (v12, τ13)) else bd2 (fX13_bad S' τ5 64 (I 3)) fun v14 τ15 => rZ v14 (some (v14, τ15)) else some ((0 : Int32), τ5) := by
    unfold fX13_readFonder
    rw [g1, bd0_s, gM15 hr']
    exact ldM67 (z := 0) hS' (by omega)
  rcases k4 with ⟨p, a1, a2, a3, a4, a5, a6, a7, a8⟩ | ⟨a1, a2, a3⟩
  rotate_left
  · refine ⟨Q2, w2, rf2, R2, v2, FCp_of k2, FM2, k1, Or.inr ⟨?_, ?_, a3⟩⟩
    · unfold fX5_readWarmth
      rw [a1, bd2_p, if_neg (by decide)]
    · rw [mpre, a2, bd2_p, if_neg (by decide)]
  have pb := a2
  rw [g4.2.2] at pb
  have ne1 : ¬ (I p = -1) := fun hh => by
    have := (I_eq (a := p) (b := -1) (by omega) (by omega)).1 (hh.trans (show (-1 : Int32) = I (-1) from rfl))
    omega
  have dr2 : DRF Q2 w2 (v2 72) (R2 64 24) (R2 67) := by
    rw [(fmp_dr k3).2.1, (fmp_dr k3).2.2]; exact DRF_fc dr1 k2
  have r67 : R2 67 = R 67 := by rw [(fmp_dr k3).2.2, g4.2.2]
  have e13 : (mk R2 v2 rm).1 64 13 = I p := by rw [mk_1, castI, a6]
  have cx : Q2 91 p = R 67 (40 + p) := by
    have := dr2.2.1.2.1 p a1 (by rw [r67]; exact pb)
    rw [r67] at this
    exact this.2.2.2.2
  have wx := wf.2.2.2.2.2.2.2.2.2.2.2.2.1 p a1 (by omega)
  rw [a4, bd2_p, if_pos (by decide), nm_eq, e13, gM15 hr', I_add, ldM67 hS' (by omega), r67] at mpre
  have cpre : fX5_readWarmth S (mk Q w rf) 103 91 = if I (R 67 (40 + p)) = 0 then bd2 (fX8_takeNumber S (mk Q2 w2 rf2) 65 (I 1) (I 9)) fun v5 τ6 => if ¬ v5 = 0 then gR τ6 103 0 fun r7 => stI S τ6 91 (I p) (τ6.1 r7 6) fun τ8 => some ((1 : Int32), τ8) else some ((0 : Int32), τ6) else bd2 (fX8_fails S (mk Q2 w2 rf2) 65 (I 3)) fun v10 τ11 => rZ v10 (some (v10, τ11)) := by
    unfold fX5_readWarmth
    rw [a3, bd2_p, if_pos ne1, ldD91 hS (by omega), gC103_0 k1, gC103_0 k1, cx]
    rfl
  by_cases full : R 67 (40 + p) = 0
  rotate_left
  · have ne2 : ¬ (I (R 67 (40 + p)) = 0) := fun hh => full ((I_eq (b := 0) (by omega) (by omega)).1 hh)
    have ne3 : ¬ (I (R 67 (40 + p)) ≤ 0) := fun hh => by
      have := (I_le (b := 0) (by omega) (by omega)).1 hh
      omega
    rw [if_neg ne2, C_fails, bd2_p] at cpre
    rw [if_neg ne3, M_bad (by omega) (by omega), bd2_p] at mpre
    exact ⟨failQ Q2 3, w2, rf2, badR R2 3, v2, FCp_of (fc_fail k2), FMp_trans FM2 (FMp_of (fm_bad fm_refl)), k1, Or.inr ⟨cpre, mpre, FAIL_mk a5.2⟩⟩
  obtain ⟨R3, v3, h1, h2, h3⟩ := goS (w := w2) hS hS' k1 hr' a5 (by omega)
  have h4 := fmp_dr (fm_of h3)
  have FM3 : FMp R R3 v v3 := FMp_trans FM2 (FMp_of (fm_of h3))
  rw [full, if_pos (by decide)] at cpre
  rw [full, if_pos (by decide), h1, bd0_s] at mpre
  obtain ⟨Q4, w4, rf4, R4, v4, l1, l2, l3⟩ := NUMP (S := S) (w := w2) (lo := 1) (hi := 9) (z := 40 + p) hS hS' k1 hr' h2 (by omega) (by omega) (by omega)
  rcases l3 with ⟨x1, b1, b2', b3, b4, b5, b6, b7, b8, b9, b10⟩ | ⟨b1, b2', b3, b4⟩
  rotate_left
  · rw [b2'] at mpre
    rw [b1, bd2_p, if_neg (by decide)] at cpre
    exact ⟨Q4, w4, rf4, R4, v4, FCp_of (fc_trans k2 l2), FMp_trans FM3 b3, l1, Or.inr ⟨cpre, mpre, b4⟩⟩
  rw [b4] at mpre
  rw [b2', bd2_p, if_pos (by decide), gC103_0 l1, mk_1, castI, b3, stD91 hS (by omega)] at cpre
  refine ⟨setR Q4 91 (updf (Q4 91) p x1), w4, rf4, R4, v4, FCp_set (FCp_of (fc_trans k2 l2)) (by omega), FMp_trans FM3 b6, l1, Or.inl ⟨cpre, mpre, ⟨l1, ?_, ?_⟩, ?_⟩⟩
  · exact BEH_q b5 (fun j _ _ => by rw [setR_ne (by omega)]) (by rw [setR_ne (by omega)]) (fun _ _ _ => rfl) rfl rfl
  · rw [b7, b8, b9, h4.1, h4.2.1, h4.2.2]
    exact DRF_u91 (DRF_fc dr2 l2) (by rw [r67]; omega) (by omega)
  · rw [setR_ne (by omega)]
    omega

theorem L_damp {S S' : Nat → Nat × Nat} {Q : Nat → Int → Int} {w : Nat → Nat → Int64} {rf : Nat → Nat → Option Nat} {R : Nat → Int → Int} {v : Nat → Nat → Int64} {rm : Nat → Nat → Option Nat} {n : Int} (hS : SCok S) (hS' : SMok S') (hr : RCok rf) (hr' : RMok rm) (sy : SYN Q w rf R v n 900) (h7 : R 64 7 = 2) (dr : DRF Q w (v 72) (R 64 24) (R 67)) : LO S' rm n Q w rf R v (fX5_readDamp S (mk Q w rf) 103) (fX13_readDamp S' (mk R v rm) 64) := by
  have wf := dr.1
  have wn7 := wf.2.2.2.2.2.2.2.1
  obtain ⟨R1, v1, g1, g2, g3⟩ := goS (w := w) hS hS' hr hr' sy (by omega)
  have g4 := fmp_dr (fm_of g3)
  have FM1 : FMp R R1 v v1 := FMp_of (fm_of g3)
  have mf := M_readFirst (S' := S') (c := 7) (k := 6) hS' hr' (by omega) (by omega) (by omega) h7 g1
  have c14 : ∀ Q0 w0 rf0, Q0 85 = Q 85 → (mk Q0 w0 rf0).1 85 14 = I (R 67 7) := fun Q0 w0 rf0 hh => by rw [mk_1, castI, hh]; exact congrArg I dr.2.1.1.2.2.2.2.2.2.2
  by_cases full : R 67 7 = 6
  · rw [ii_t full] at mf
    refine ⟨failQ Q 4, w, rf, badR R 4, v, FCp_of (fc_fail fc_refl), FMp_of (fm_bad fm_refl), hr, Or.inr ⟨?_, ?_, FAIL_mk sy.2⟩⟩
    · unfold fX5_readDamp
      rw [gC103_1 hr, c14 Q w rf rfl, if_neg (by rw [full]; decide), gC103_0 hr, I_lit, C_fails, bd2_p]
      rfl
    · unfold fX13_readDamp
      rw [show fX13_readFirst S' (mk R v rm) 64 7 6 = _ from mf, bd2_p]
      rfl
  rw [ii_f full] at mf
  generalize hk : R 67 7 = k at *
  have lt : I k < (6 : Int32) := by rw [I_lit, I_lt (by omega) (by omega)]; omega
  have mpre : fX13_readDamp S' (mk R v rm) 64 = bd2 (fX13_readNumber S' (mk R1 v1 rm) 64 (I 0) (I 599)) fun v5 τ6 => bd2 (fX13_put S' τ6 64 (I (72 + k)) v5) fun v7 τ8 => if v7 = 0 then fX13_readDamp_b67 S' τ8 else gR τ8 64 15 fun r9 => ldI S' τ8 r9 (I (72 + k)) fun v10 => bd2 (fX13_readNumber S' τ8 64 v10 (I 599)) fun v11 τ12 => bd2 (fX13_put S' τ12 64 (I (78 + k)) v11) fun v13 τ14 => if ¬ v13 = 0 then gR τ14 64 15 fun r15 => ldI S' τ14 r15 (I 7) fun v16 => stI S' τ14 r15 (I 7) (v16 + (I 1)) fun τ17 => some ((1 : Int32), τ17) else fX13_readDamp_b67 S' τ14 := by
    have e7 : ∀ F : Int32 → Option (Int32 × mm), ldI S' (mk R1 v1 rm) 67 7 F = F (I (R1 67 7)) := fun F => ldM67 (z := 7) hS' (by omega)
    unfold fX13_readDamp
    rw [show fX13_readFirst S' (mk R v rm) 64 7 6 = _ from mf, bd2_p, if_pos (by decide), gM15 hr', e7, g4.2.2, hk]
    simp only [I_lit, I_add]
  have cpre : fX5_readDamp S (mk Q w rf) 103 = bd2 (fX8_takeNumber S (mk Q w rf) 65 (I 0) (I 599)) fun v3 τ4 => if ¬ v3 = 0 then gR τ4 103 0 fun r5 => nm (τ4.1 r5 6) fun v6 => gR τ4 103 0 fun r7 => bd2 (fX8_takeNumber S τ4 r7 v6 (I 599)) fun v8 τ9 => if ¬ v8 = 0 then gR τ9 103 1 fun r10 => gR τ9 r10 13 fun r11 => gR τ9 103 1 fun r12 => stI S τ9 r11 ((I 2) * (τ9.1 r12 14)) v6 fun τ13 => gR τ13 103 1 fun r14 => gR τ13 r14 13 fun r15 => gR τ13 103 1 fun r16 => gR τ13 103 0 fun r17 => stI S τ13 r15 (((I 2) * (τ13.1 r16 14)) + (I 1)) (τ13.1 r17 6) fun τ18 => gR τ18 103 1 fun r19 => wI τ18 r19 14 ((τ18.1 r19 14) + (I 1)) fun τ20 => some ((1 : Int32), τ20) else some ((0 : Int32), τ9) else some ((0 : Int32), τ4) := by
    unfold fX5_readDamp
    rw [gC103_1 hr, c14 Q w rf rfl, if_pos lt, gC103_0 hr]
    rfl
  obtain ⟨Q2, w2, rf2, R2, v2, k1, k2, k3⟩ := NUMP (S := S) (w := w) (lo := 0) (hi := 599) (z := 72 + k) hS hS' hr hr' g2 (by omega) (by omega) (by omega)
  rcases k3 with ⟨x1, b1, b2', b3, b4, b5, b6, b7, b8, b9, b10⟩ | ⟨b1, b2', b3, b4⟩
  rotate_left
  · rw [b2', if_pos rfl] at mpre
    rw [b1, bd2_p, if_neg (by decide)] at cpre
    exact ⟨Q2, w2, rf2, R2, v2, FCp_of k2, FMp_trans FM1 b3, k1, Or.inr ⟨cpre, mpre, b4⟩⟩
  have FM2 : FMp R R2 v v2 := FMp_trans FM1 b6
  have n72 : R2 67 (72 + k) = x1 := by rw [b7, updf_same rfl]
  rw [b4, if_neg (by decide), gM15 hr', ldM67 hS' (by omega), n72] at mpre
  rw [b2', bd2_p, if_pos (by decide), gC103_0 k1, nm_eq, gC103_0 k1, mk_1, castI, b3] at cpre
  obtain ⟨Q3, w3, rf3, R3, v3, l1, l2, l3⟩ := NUMP (S := S) (w := w2) (lo := x1) (hi := 599) (z := 78 + k) hS hS' k1 hr' b5 (by omega) (by omega) (by omega)
  rcases l3 with ⟨x2, d1, d2, d3, d4, d5, d6, d7, d8, d9, d10⟩ | ⟨d1, d2, d3, d4⟩
  rotate_left
  · rw [d2, if_neg (by decide)] at mpre
    rw [d1, bd2_p, if_neg (by decide)] at cpre
    exact ⟨Q3, w3, rf3, R3, v3, FCp_of (fc_trans k2 l2), FMp_trans FM2 d3, l1, Or.inr ⟨cpre, mpre, d4⟩⟩
  have fc3 := fc_trans k2 l2
  have n7 : R3 67 7 = k := by rw [d7, updf_ne (by omega), b7, updf_ne (by omega), g4.2.2, hk]
  rw [d4, if_pos (by decide), gM15 hr', ldM67 hS' (by omega), n7, I_add, stM67 hS' (by omega)] at mpre
  have q85 : Q3 85 = Q 85 := fc3.1 85 (by omega)
  rw [d2, bd2_p, if_pos (by decide), gC103_1 l1, gD85_13 l1, gC103_1 l1, c14 Q3 w3 rf3 q85, I_mul, stD97 hS (by omega), gC103_1 l1, gD85_13 l1, gC103_1 l1, gC103_0 l1, c14 (setR Q3 97 (updf (Q3 97) (2 * k) x1)) w3 rf3 (by rw [setR_ne (by omega)]; exact q85), I_mul, I_add, mk_1, castI, setR_ne (a := 97) (b := 65) (by omega), d3, stD97 hS (by omega), gC103_1 l1] at cpre
  generalize hq4 : setR Q3 97 (updf (Q3 97) (2 * k) x1) = Q4 at cpre
  generalize hq5 : setR Q4 97 (updf (Q4 97) (2 * k + 1) x2) = Q5 at cpre
  have q5o : ∀ a, a ≠ 97 → Q5 a = Q3 a := fun a ha => by rw [← hq5, setR_ne ha, ← hq4, setR_ne ha]
  rw [c14 Q5 w3 rf3 (by rw [q5o 85 (by omega)]; exact q85), I_add, wI_mk, castI] at cpre
  have dr5 : DRF Q5 w3 (v3 72) (R3 64 24) (R3 67) := by
    rw [d7, d8, d9, b7, b8, b9, g4.1, g4.2.1, g4.2.2, ← hq5, ← hq4]
    exact DRF_d1 (DRF_d0 (DRF_fc dr fc3) (by omega) (by omega)) (by omega) (by omega)
  have r1 : Q5 97 (2 * k) = x1 := by rw [← hq5, setR_same, updf_ne (by omega), ← hq4, setR_same, updf_same rfl]
  have r2 : Q5 97 (2 * k + 1) = x2 := by rw [← hq5, setR_same, updf_same rfl]
  have m1 : R3 67 (72 + k) = x1 := by rw [d7, updf_ne (by omega), b7, updf_same rfl]
  have m2 : R3 67 (78 + k) = x2 := by rw [d7, updf_same rfl]
  have dr6 := DRF_n7 dr5 (by omega) (by rw [n7, r1, r2, m1, m2]; exact ⟨rfl, rfl⟩)
  rw [n7] at dr6
  refine ⟨setR Q5 85 (updf (Q5 85) 14 (k + 1)), w3, rf3, setR R3 67 (updf (R3 67) 7 (k + 1)), v3, ?_, FMp_67 (FMp_trans FM2 d6), l1, Or.inl ⟨cpre, mpre, ⟨l1, ?_, ?_⟩, ?_⟩⟩
  · refine FCp_set ?_ (by omega)
    rw [← hq5, ← hq4]
    exact FCp_set (FCp_set (FCp_of fc3) (by omega)) (by omega)
  · refine BEH_q d5 (fun j _ _ => ?_) ?_ (fun j _ _ => ?_) ?_ rfl
    · rw [setR_ne (by omega), q5o 65 (by omega)]
    · rw [setR_ne (by omega), q5o 66 (by omega)]
    · rw [setR_ne (by omega)]
    · rw [setR_ne (by omega)]
  · rw [setR_same, setR_ne (a := 67) (b := 64) (by omega)]
    exact dr6
  · rw [setR_ne (by omega), q5o 65 (by omega)]
    omega
