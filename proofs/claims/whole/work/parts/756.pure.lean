theorem hs_0 {a b c d : Int} (ha : a = 0 ∨ a = 1) (hb : b = 0 ∨ b = 1) (hc : c = 0 ∨ c = 1) (hd : d = 0 ∨ d = 1) : (hasA (I (a + 2 * b + 4 * c + 8 * d)) 0 ↔ a = 1) ∧ (a = 0 → (I (a + 2 * b + 4 * c + 8 * d)) ||| ((1 : Int32) <<< (I 0 &&& 31)) = I (a + 2 * b + 4 * c + 8 * d + 1)) := by
  unfold hasA
  rcases ha with ha | ha <;> rcases hb with hb | hb <;> rcases hc with hc | hc <;> rcases hd with hd | hd <;> subst ha <;> subst hb <;> subst hc <;> subst hd <;> decide
theorem FRESH0 {S S' : Nat → Nat × Nat} {Q : Nat → Int → Int} {w : Nat → Nat → Int64} {rf : Nat → Nat → Option Nat} {R : Nat → Int → Int} {v : Nat → Nat → Int64} {rm : Nat → Nat → Option Nat} {n m : Int} {a b c d : Int} (hS : SCok S) (hS' : SMok S') (hr : RCok rf) (hr' : RMok rm) (sy : SYN Q w rf R v n m) (h7 : R 64 7 = 2) (ho : R 64 24 = a + 2 * b + 4 * c + 8 * d) (ha : a = 0 ∨ a = 1) (hb : b = 0 ∨ b = 1) (hc : c = 0 ∨ c = 1) (hd : d = 0 ∨ d = 1) : (a = 1 → fX13_isFresh S' (mk R v rm) 64 (I 0) = some (0, mk (badR R 3) v rm)) ∧ (a = 0 → ∃ R1 v1, fX13_isFresh S' (mk R v rm) 64 (I 0) = some (1, mk R1 v1 rm) ∧ BEH S' rm Q R1 v1 n m ∧ FMp R R1 v v1 ∧ v1 72 = v 72 ∧ R1 64 24 = R 64 24 + 1 ∧ R1 67 = R 67) := by
  obtain ⟨i1, i2⟩ := hs_0 ha hb hc hd
  rw [← ho] at i1 i2
  have e24 : (mk R v rm).1 64 24 = I (R 64 24) := by rw [mk_1, castI]
  refine ⟨fun q => ?_, fun q => ?_⟩
  · unfold fX13_isFresh
    rw [e24, M_has, bd0_s, b2_t (i1.2 q), if_neg (by decide), I_lit, M_bad (by omega) (by omega), bd2_p]
    rfl
  · have sy' : SYN Q w rf (setR R 64 (updf (R 64) 24 (R 64 24 + 1))) v n m := SYN_q sy (fun _ _ _ => rfl) rfl (fun j _ _ => by rw [setR_same, updf_ne (by omega)]) (by rw [setR_ne (by omega)]) rfl rfl rfl
    obtain ⟨R1, v1, g1, g2, g3⟩ := goS (w := w) hS hS' hr hr' sy' (by rw [setR_same, updf_ne (by omega)]; omega)
    have g4 := fmp_dr (fm_of g3)
    refine ⟨R1, v1, ?_, g2, FMp_trans (FMp_24 FMp_refl) (FMp_of (fm_of g3)), g4.1, ?_, ?_⟩
    · unfold fX13_isFresh
      rw [e24, M_has, bd0_s, b2_f (fun hh => by rw [i1.1 hh] at q; omega), if_pos rfl, i2 q, wI_mk, castI, g1, bd0_s]
    · rw [g4.2.1, setR_same, updf_same rfl]
    · rw [g4.2.2, setR_ne (by omega)]
theorem hs_1 {a b c d : Int} (ha : a = 0 ∨ a = 1) (hb : b = 0 ∨ b = 1) (hc : c = 0 ∨ c = 1) (hd : d = 0 ∨ d = 1) : (hasA (I (a + 2 * b + 4 * c + 8 * d)) 1 ↔ b = 1) ∧ (b = 0 → (I (a + 2 * b + 4 * c + 8 * d)) ||| ((1 : Int32) <<< (I 1 &&& 31)) = I (a + 2 * b + 4 * c + 8 * d + 2)) := by
  unfold hasA
  rcases ha with ha | ha <;> rcases hb with hb | hb <;> rcases hc with hc | hc <;> rcases hd with hd | hd <;> subst ha <;> subst hb <;> subst hc <;> subst hd <;> decide
theorem FRESH1 {S S' : Nat → Nat × Nat} {Q : Nat → Int → Int} {w : Nat → Nat → Int64} {rf : Nat → Nat → Option Nat} {R : Nat → Int → Int} {v : Nat → Nat → Int64} {rm : Nat → Nat → Option Nat} {n m : Int} {a b c d : Int} (hS : SCok S) (hS' : SMok S') (hr : RCok rf) (hr' : RMok rm) (sy : SYN Q w rf R v n m) (h7 : R 64 7 = 2) (ho : R 64 24 = a + 2 * b + 4 * c + 8 * d) (ha : a = 0 ∨ a = 1) (hb : b = 0 ∨ b = 1) (hc : c = 0 ∨ c = 1) (hd : d = 0 ∨ d = 1) : (b = 1 → fX13_isFresh S' (mk R v rm) 64 (I 1) = some (0, mk (badR R 3) v rm)) ∧ (b = 0 → ∃ R1 v1, fX13_isFresh S' (mk R v rm) 64 (I 1) = some (1, mk R1 v1 rm) ∧ BEH S' rm Q R1 v1 n m ∧ FMp R R1 v v1 ∧ v1 72 = v 72 ∧ R1 64 24 = R 64 24 + 2 ∧ R1 67 = R 67) := by
  obtain ⟨i1, i2⟩ := hs_1 ha hb hc hd
  rw [← ho] at i1 i2
  have e24 : (mk R v rm).1 64 24 = I (R 64 24) := by rw [mk_1, castI]
  refine ⟨fun q => ?_, fun q => ?_⟩
  · unfold fX13_isFresh
    rw [e24, M_has, bd0_s, b2_t (i1.2 q), if_neg (by decide), I_lit, M_bad (by omega) (by omega), bd2_p]
    rfl
  · have sy' : SYN Q w rf (setR R 64 (updf (R 64) 24 (R 64 24 + 2))) v n m := SYN_q sy (fun _ _ _ => rfl) rfl (fun j _ _ => by rw [setR_same, updf_ne (by omega)]) (by rw [setR_ne (by omega)]) rfl rfl rfl
    obtain ⟨R1, v1, g1, g2, g3⟩ := goS (w := w) hS hS' hr hr' sy' (by rw [setR_same, updf_ne (by omega)]; omega)
    have g4 := fmp_dr (fm_of g3)
    refine ⟨R1, v1, ?_, g2, FMp_trans (FMp_24 FMp_refl) (FMp_of (fm_of g3)), g4.1, ?_, ?_⟩
    · unfold fX13_isFresh
      rw [e24, M_has, bd0_s, b2_f (fun hh => by rw [i1.1 hh] at q; omega), if_pos rfl, i2 q, wI_mk, castI, g1, bd0_s]
    · rw [g4.2.1, setR_same, updf_same rfl]
    · rw [g4.2.2, setR_ne (by omega)]
theorem hs_2 {a b c d : Int} (ha : a = 0 ∨ a = 1) (hb : b = 0 ∨ b = 1) (hc : c = 0 ∨ c = 1) (hd : d = 0 ∨ d = 1) : (hasA (I (a + 2 * b + 4 * c + 8 * d)) 2 ↔ c = 1) ∧ (c = 0 → (I (a + 2 * b + 4 * c + 8 * d)) ||| ((1 : Int32) <<< (I 2 &&& 31)) = I (a + 2 * b + 4 * c + 8 * d + 4)) := by
  unfold hasA
  rcases ha with ha | ha <;> rcases hb with hb | hb <;> rcases hc with hc | hc <;> rcases hd with hd | hd <;> subst ha <;> subst hb <;> subst hc <;> subst hd <;> decide
theorem FRESH2 {S S' : Nat → Nat × Nat} {Q : Nat → Int → Int} {w : Nat → Nat → Int64} {rf : Nat → Nat → Option Nat} {R : Nat → Int → Int} {v : Nat → Nat → Int64} {rm : Nat → Nat → Option Nat} {n m : Int} {a b c d : Int} (hS : SCok S) (hS' : SMok S') (hr : RCok rf) (hr' : RMok rm) (sy : SYN Q w rf R v n m) (h7 : R 64 7 = 2) (ho : R 64 24 = a + 2 * b + 4 * c + 8 * d) (ha : a = 0 ∨ a = 1) (hb : b = 0 ∨ b = 1) (hc : c = 0 ∨ c = 1) (hd : d = 0 ∨ d = 1) : (c = 1 → fX13_isFresh S' (mk R v rm) 64 (I 2) = some (0, mk (badR R 3) v rm)) ∧ (c = 0 → ∃ R1 v1, fX13_isFresh S' (mk R v rm) 64 (I 2) = some (1, mk R1 v1 rm) ∧ BEH S' rm Q R1 v1 n m ∧ FMp R R1 v v1 ∧ v1 72 = v 72 ∧ R1 64 24 = R 64 24 + 4 ∧ R1 67 = R 67) := by
  obtain ⟨i1, i2⟩ := hs_2 ha hb hc hd
  rw [← ho] at i1 i2
  have e24 : (mk R v rm).1 64 24 = I (R 64 24) := by rw [mk_1, castI]
  refine ⟨fun q => ?_, fun q => ?_⟩
  · unfold fX13_isFresh
    rw [e24, M_has, bd0_s, b2_t (i1.2 q), if_neg (by decide), I_lit, M_bad (by omega) (by omega), bd2_p]
    rfl
  · have sy' : SYN Q w rf (setR R 64 (updf (R 64) 24 (R 64 24 + 4))) v n m := SYN_q sy (fun _ _ _ => rfl) rfl (fun j _ _ => by rw [setR_same, updf_ne (by omega)]) (by rw [setR_ne (by omega)]) rfl rfl rfl
    obtain ⟨R1, v1, g1, g2, g3⟩ := goS (w := w) hS hS' hr hr' sy' (by rw [setR_same, updf_ne (by omega)]; omega)
    have g4 := fmp_dr (fm_of g3)
    refine ⟨R1, v1, ?_, g2, FMp_trans (FMp_24 FMp_refl) (FMp_of (fm_of g3)), g4.1, ?_, ?_⟩
    · unfold fX13_isFresh
      rw [e24, M_has, bd0_s, b2_f (fun hh => by rw [i1.1 hh] at q; omega), if_pos rfl, i2 q, wI_mk, castI, g1, bd0_s]
    · rw [g4.2.1, setR_same, updf_same rfl]
    · rw [g4.2.2, setR_ne (by omega)]
theorem hs_3 {a b c d : Int} (ha : a = 0 ∨ a = 1) (hb : b = 0 ∨ b = 1) (hc : c = 0 ∨ c = 1) (hd : d = 0 ∨ d = 1) : (hasA (I (a + 2 * b + 4 * c + 8 * d)) 3 ↔ d = 1) ∧ (d = 0 → (I (a + 2 * b + 4 * c + 8 * d)) ||| ((1 : Int32) <<< (I 3 &&& 31)) = I (a + 2 * b + 4 * c + 8 * d + 8)) := by
  unfold hasA
  rcases ha with ha | ha <;> rcases hb with hb | hb <;> rcases hc with hc | hc <;> rcases hd with hd | hd <;> subst ha <;> subst hb <;> subst hc <;> subst hd <;> decide
theorem FRESH3 {S S' : Nat → Nat × Nat} {Q : Nat → Int → Int} {w : Nat → Nat → Int64} {rf : Nat → Nat → Option Nat} {R : Nat → Int → Int} {v : Nat → Nat → Int64} {rm : Nat → Nat → Option Nat} {n m : Int} {a b c d : Int} (hS : SCok S) (hS' : SMok S') (hr : RCok rf) (hr' : RMok rm) (sy : SYN Q w rf R v n m) (h7 : R 64 7 = 2) (ho : R 64 24 = a + 2 * b + 4 * c + 8 * d) (ha : a = 0 ∨ a = 1) (hb : b = 0 ∨ b = 1) (hc : c = 0 ∨ c = 1) (hd : d = 0 ∨ d = 1) : (d = 1 → fX13_isFresh S' (mk R v rm) 64 (I 3) = some (0, mk (badR R 3) v rm)) ∧ (d = 0 → ∃ R1 v1, fX13_isFresh S' (mk R v rm) 64 (I 3) = some (1, mk R1 v1 rm) ∧ BEH S' rm Q R1 v1 n m ∧ FMp R R1 v v1 ∧ v1 72 = v 72 ∧ R1 64 24 = R 64 24 + 8 ∧ R1 67 = R 67) := by
  obtain ⟨i1, i2⟩ := hs_3 ha hb hc hd
  rw [← ho] at i1 i2
  have e24 : (mk R v rm).1 64 24 = I (R 64 24) := by rw [mk_1, castI]
  refine ⟨fun q => ?_, fun q => ?_⟩
  · unfold fX13_isFresh
    rw [e24, M_has, bd0_s, b2_t (i1.2 q), if_neg (by decide), I_lit, M_bad (by omega) (by omega), bd2_p]
    rfl
  · have sy' : SYN Q w rf (setR R 64 (updf (R 64) 24 (R 64 24 + 8))) v n m := SYN_q sy (fun _ _ _ => rfl) rfl (fun j _ _ => by rw [setR_same, updf_ne (by omega)]) (by rw [setR_ne (by omega)]) rfl rfl rfl
    obtain ⟨R1, v1, g1, g2, g3⟩ := goS (w := w) hS hS' hr hr' sy' (by rw [setR_same, updf_ne (by omega)]; omega)
    have g4 := fmp_dr (fm_of g3)
    refine ⟨R1, v1, ?_, g2, FMp_trans (FMp_24 FMp_refl) (FMp_of (fm_of g3)), g4.1, ?_, ?_⟩
    · unfold fX13_isFresh
      rw [e24, M_has, bd0_s, b2_f (fun hh => by rw [i1.1 hh] at q; omega), if_pos rfl, i2 q, wI_mk, castI, g1, bd0_s]
    · rw [g4.2.1, setR_same, updf_same rfl]
    · rw [g4.2.2, setR_ne (by omega)]
theorem L_Grace {S S' : Nat → Nat × Nat} {Q : Nat → Int → Int} {w : Nat → Nat → Int64} {rf : Nat → Nat → Option Nat} {R : Nat → Int → Int} {v : Nat → Nat → Int64} {rm : Nat → Nat → Option Nat} {n : Int} (hS : SCok S) (hS' : SMok S') (hr : RCok rf) (hr' : RMok rm) (sy : SYN Q w rf R v n 900) (h7 : R 64 7 = 2) (dr : DRF Q w (v 72) (R 64 24) (R 67)) : LO S' rm n Q w rf R v (fX5_readGrace S (mk Q w rf) 103) (bd2 (fX13_isFresh S' (mk R v rm) 64 (I 0)) fun v23 τ24 => if v23 = 0 then some ((0 : Int32), τ24) else bd2 (fX13_readNumber S' τ24 64 (I 1) (I 9)) fun v25 τ26 => bd2 (fX13_put S' τ26 64 (I 3) v25) fun v27 τ28 => some (v27, τ28)) := by
  obtain ⟨f1, f2, f3⟩ := dr.2.2.2.1
  have wf := dr.1
  have w5 := wf.2.2.2.2.2.1
  have w6 := wf.2.2.2.2.2.2.1
  obtain ⟨i1, i2⟩ := FRESH0 (S := S) (w := w) hS hS' hr hr' sy h7 f3 f1 f2 (by omega) (by omega)
  have eq2 : (mk Q w rf).1 103 2 = I (Q 103 2) := by rw [mk_1, castI]
  by_cases full : Q 103 2 = 1
  · refine ⟨failQ Q 3, w, rf, badR R 3, v, FCp_of (fc_fail fc_refl), FMp_of (fm_bad fm_refl), hr, Or.inr ⟨?_, ?_, FAIL_mk sy.2⟩⟩
    · unfold fX5_readGrace
      rw [eq2, full, if_neg (by decide), gC103_0 hr, I_lit, C_fails, bd2_p]
      rfl
    · rw [i1 full, bd2_p, if_pos rfl]
  have q0 : Q 103 2 = 0 := by
    rcases f1 with h | h
    · exact h
    · exact absurd h full
  obtain ⟨R1, v1, g1, g2, g3, g4, g5, g6⟩ := i2 q0
  obtain ⟨Q2, w2, rf2, R2, v2, k1, k2, k3⟩ := NUMP (S := S) (w := w) (lo := 1) (hi := 9) (z := 3) hS hS' hr hr' g2 (by omega) (by omega) (by omega)
  have cpre : fX5_readGrace S (mk Q w rf) 103 = bd2 (fX8_takeNumber S (mk Q w rf) 65 (I 1) (I 9)) fun v2 τ3 => if ¬ v2 = 0 then wZ τ3 103 2 (I 1) fun τ4 => gR τ4 103 1 fun r5 => gR τ4 103 0 fun r6 => wI τ4 r5 16 (τ4.1 r6 6) fun τ7 => some ((1 : Int32), τ7) else some ((0 : Int32), τ3) := by
    unfold fX5_readGrace
    rw [eq2, q0, if_pos (by decide), gC103_0 hr]
    rfl
  rcases k3 with ⟨x1, b1, b2', b3, b4, b5, b6, b7, b8, b9, b10⟩ | ⟨b1, b2', b3, b4⟩
  rotate_left
  · rw [b1, bd2_p, if_neg (by decide)] at cpre
    refine ⟨Q2, w2, rf2, R2, v2, FCp_of k2, FMp_trans g3 b3, k1, Or.inr ⟨cpre, ?_, b4⟩⟩
    rw [g1, bd2_p, if_neg (by decide), b2']
  rw [b2', bd2_p, if_pos (by decide), wZ_mk (by omega), gC103_1 k1, gC103_0 k1, mk_1, castI, castI, setR_ne (a := 103) (b := 65) (by omega), b3, wI_mk, castI, setR_ne (a := 103) (b := 85) (by omega)] at cpre
  refine ⟨setR (setR Q2 103 (updf (Q2 103) 2 1)) 85 (updf (Q2 85) 16 x1), w2, rf2, R2, v2, FCp_set (FCp_set (FCp_of k2) (by omega)) (by omega), FMp_trans g3 b6, k1, Or.inl ⟨cpre, ?_, ⟨k1, ?_, ?_⟩, ?_⟩⟩
  · rw [g1, bd2_p, if_neg (by decide), b4]
  · refine BEH_q b5 (fun j _ _ => ?_) ?_ (fun j _ _ => rfl) rfl rfl
    · rw [setR_ne (by omega), setR_ne (by omega)]
    · rw [setR_ne (by omega), setR_ne (by omega)]
  · rw [b7, b8, b9, g4, g5, g6]
    exact DRF_s3 (DRF_fc dr k2) (by rw [k2.1 103 (by omega)]; exact q0) (by omega)
  · rw [setR_ne (by omega), setR_ne (by omega)]
    omega

theorem L_Wish {S S' : Nat → Nat × Nat} {Q : Nat → Int → Int} {w : Nat → Nat → Int64} {rf : Nat → Nat → Option Nat} {R : Nat → Int → Int} {v : Nat → Nat → Int64} {rm : Nat → Nat → Option Nat} {n : Int} (hS : SCok S) (hS' : SMok S') (hr : RCok rf) (hr' : RMok rm) (sy : SYN Q w rf R v n 900) (h7 : R 64 7 = 2) (dr : DRF Q w (v 72) (R 64 24) (R 67)) : LO S' rm n Q w rf R v (fX5_readWish S (mk Q w rf) 103) (bd2 (fX13_isFresh S' (mk R v rm) 64 (I 1)) fun v23 τ24 => if v23 = 0 then some ((0 : Int32), τ24) else bd2 (fX13_readNumber S' τ24 64 (I 0) (I 99)) fun v25 τ26 => bd2 (fX13_put S' τ26 64 (I 4) v25) fun v27 τ28 => some (v27, τ28)) := by
  obtain ⟨f1, f2, f3⟩ := dr.2.2.2.1
  have wf := dr.1
  have w5 := wf.2.2.2.2.2.1
  have w6 := wf.2.2.2.2.2.2.1
  obtain ⟨i1, i2⟩ := FRESH1 (S := S) (w := w) hS hS' hr hr' sy h7 f3 f1 f2 (by omega) (by omega)
  have eq2 : (mk Q w rf).1 103 3 = I (Q 103 3) := by rw [mk_1, castI]
  by_cases full : Q 103 3 = 1
  · refine ⟨failQ Q 3, w, rf, badR R 3, v, FCp_of (fc_fail fc_refl), FMp_of (fm_bad fm_refl), hr, Or.inr ⟨?_, ?_, FAIL_mk sy.2⟩⟩
    · unfold fX5_readWish
      rw [eq2, full, if_neg (by decide), gC103_0 hr, I_lit, C_fails, bd2_p]
      rfl
    · rw [i1 full, bd2_p, if_pos rfl]
  have q0 : Q 103 3 = 0 := by
    rcases f2 with h | h
    · exact h
    · exact absurd h full
  obtain ⟨R1, v1, g1, g2, g3, g4, g5, g6⟩ := i2 q0
  obtain ⟨Q2, w2, rf2, R2, v2, k1, k2, k3⟩ := NUMP (S := S) (w := w) (lo := 0) (hi := 99) (z := 4) hS hS' hr hr' g2 (by omega) (by omega) (by omega)
  have cpre : fX5_readWish S (mk Q w rf) 103 = bd2 (fX8_takeNumber S (mk Q w rf) 65 (I 0) (I 99)) fun v2 τ3 => if ¬ v2 = 0 then wZ τ3 103 3 (I 1) fun τ4 => gR τ4 103 1 fun r5 => gR τ4 103 0 fun r6 => wI τ4 r5 17 (τ4.1 r6 6) fun τ7 => some ((1 : Int32), τ7) else some ((0 : Int32), τ3) := by
    unfold fX5_readWish
    rw [eq2, q0, if_pos (by decide), gC103_0 hr]
    rfl
  rcases k3 with ⟨x1, b1, b2', b3, b4, b5, b6, b7, b8, b9, b10⟩ | ⟨b1, b2', b3, b4⟩
  rotate_left
  · rw [b1, bd2_p, if_neg (by decide)] at cpre
    refine ⟨Q2, w2, rf2, R2, v2, FCp_of k2, FMp_trans g3 b3, k1, Or.inr ⟨cpre, ?_, b4⟩⟩
    rw [g1, bd2_p, if_neg (by decide), b2']
  rw [b2', bd2_p, if_pos (by decide), wZ_mk (by omega), gC103_1 k1, gC103_0 k1, mk_1, castI, castI, setR_ne (a := 103) (b := 65) (by omega), b3, wI_mk, castI, setR_ne (a := 103) (b := 85) (by omega)] at cpre
  refine ⟨setR (setR Q2 103 (updf (Q2 103) 3 1)) 85 (updf (Q2 85) 17 x1), w2, rf2, R2, v2, FCp_set (FCp_set (FCp_of k2) (by omega)) (by omega), FMp_trans g3 b6, k1, Or.inl ⟨cpre, ?_, ⟨k1, ?_, ?_⟩, ?_⟩⟩
  · rw [g1, bd2_p, if_neg (by decide), b4]
  · refine BEH_q b5 (fun j _ _ => ?_) ?_ (fun j _ _ => rfl) rfl rfl
    · rw [setR_ne (by omega), setR_ne (by omega)]
    · rw [setR_ne (by omega), setR_ne (by omega)]
  · rw [b7, b8, b9, g4, g5, g6]
    exact DRF_s4 (DRF_fc dr k2) (by rw [k2.1 103 (by omega)]; exact q0) (by omega)
  · rw [setR_ne (by omega), setR_ne (by omega)]
    omega

theorem L_Early {S S' : Nat → Nat × Nat} {Q : Nat → Int → Int} {w : Nat → Nat → Int64} {rf : Nat → Nat → Option Nat} {R : Nat → Int → Int} {v : Nat → Nat → Int64} {rm : Nat → Nat → Option Nat} {n : Int} (hS : SCok S) (hS' : SMok S') (hr : RCok rf) (hr' : RMok rm) (sy : SYN Q w rf R v n 900) (h7 : R 64 7 = 2) (dr : DRF Q w (v 72) (R 64 24) (R 67)) : LO S' rm n Q w rf R v (fX5_readEarly S (mk Q w rf) 103) (fX13_readFlag S' (mk R v rm) 64 (I 2) (I 5)) := by
  obtain ⟨f1, f2, f3⟩ := dr.2.2.2.1
  have wf := dr.1
  have w5 := wf.2.2.2.2.2.1
  have w6 := wf.2.2.2.2.2.2.1
  obtain ⟨i1, i2⟩ := FRESH2 (S := S) (w := w) hS hS' hr hr' sy h7 f3 f1 f2 (by omega) (by omega)
  have eq2 : (mk Q w rf).1 85 18 = I (R 67 5) := by rw [mk_1, castI]; exact congrArg I dr.2.1.1.2.2.2.2.2.1
  by_cases full : R 67 5 = 1
  · refine ⟨failQ Q 3, w, rf, badR R 3, v, FCp_of (fc_fail fc_refl), FMp_of (fm_bad fm_refl), hr, Or.inr ⟨?_, ?_, FAIL_mk sy.2⟩⟩
    · unfold fX5_readEarly
      rw [gC103_1 hr, eq2, full, if_neg (by decide), gC103_0 hr, I_lit, C_fails, bd2_p]
      rfl
    · unfold fX13_readFlag
      rw [i1 full, bd2_p, if_neg (by decide)]
  have q0 : R 67 5 = 0 := by omega
  obtain ⟨R1, v1, g1, g2, g3, g4, g5, g6⟩ := i2 q0
  refine ⟨setR Q 85 (updf (Q 85) 18 1), w, rf, setR R1 67 (updf (R1 67) 5 1), v1, FCp_set (FCp_of fc_refl) (by omega), FMp_67 g3, hr, Or.inl ⟨?_, ?_, ⟨hr, ?_, ?_⟩, ?_⟩⟩
  · unfold fX5_readEarly
    rw [gC103_1 hr, eq2, q0, if_pos (by decide), gC103_1 hr, show (1 : Int32) = I 1 from rfl, wZ_mk (by omega)]
    rfl
  · unfold fX13_readFlag
    rw [g1, bd2_p, if_pos (by decide), gM15 hr', show (1 : Int32) = I 1 from rfl, stM67 hS' (by omega)]
  · refine BEH_q g2 (fun j _ _ => ?_) ?_ (fun j _ _ => ?_) ?_ rfl
    · rw [setR_ne (by omega)]
    · rw [setR_ne (by omega)]
    · rw [setR_ne (by omega)]
    · rw [setR_ne (by omega)]
  · rw [setR_same, setR_ne (a := 67) (b := 64) (by omega), g4, g5, g6]
    exact DRF_s5 dr q0
  · rw [setR_ne (by omega)]
    omega

theorem L_Level {S S' : Nat → Nat × Nat} {Q : Nat → Int → Int} {w : Nat → Nat → Int64} {rf : Nat → Nat → Option Nat} {R : Nat → Int → Int} {v : Nat → Nat → Int64} {rm : Nat → Nat → Option Nat} {n : Int} (hS : SCok S) (hS' : SMok S') (hr : RCok rf) (hr' : RMok rm) (sy : SYN Q w rf R v n 900) (h7 : R 64 7 = 2) (dr : DRF Q w (v 72) (R 64 24) (R 67)) : LO S' rm n Q w rf R v (fX5_readLevel S (mk Q w rf) 103) (fX13_readFlag S' (mk R v rm) 64 (I 3) (I 6)) := by
  obtain ⟨f1, f2, f3⟩ := dr.2.2.2.1
  have wf := dr.1
  have w5 := wf.2.2.2.2.2.1
  have w6 := wf.2.2.2.2.2.2.1
  obtain ⟨i1, i2⟩ := FRESH3 (S := S) (w := w) hS hS' hr hr' sy h7 f3 f1 f2 (by omega) (by omega)
  have eq2 : (mk Q w rf).1 85 19 = I (R 67 6) := by rw [mk_1, castI]; exact congrArg I dr.2.1.1.2.2.2.2.2.2.1
  by_cases full : R 67 6 = 1
  · refine ⟨failQ Q 3, w, rf, badR R 3, v, FCp_of (fc_fail fc_refl), FMp_of (fm_bad fm_refl), hr, Or.inr ⟨?_, ?_, FAIL_mk sy.2⟩⟩
    · unfold fX5_readLevel
      rw [gC103_1 hr, eq2, full, if_neg (by decide), gC103_0 hr, I_lit, C_fails, bd2_p]
      rfl
    · unfold fX13_readFlag
      rw [i1 full, bd2_p, if_neg (by decide)]
  have q0 : R 67 6 = 0 := by omega
  obtain ⟨R1, v1, g1, g2, g3, g4, g5, g6⟩ := i2 q0
  refine ⟨setR Q 85 (updf (Q 85) 19 1), w, rf, setR R1 67 (updf (R1 67) 6 1), v1, FCp_set (FCp_of fc_refl) (by omega), FMp_67 g3, hr, Or.inl ⟨?_, ?_, ⟨hr, ?_, ?_⟩, ?_⟩⟩
  · unfold fX5_readLevel
    rw [gC103_1 hr, eq2, q0, if_pos (by decide), gC103_1 hr, show (1 : Int32) = I 1 from rfl, wZ_mk (by omega)]
    rfl
  · unfold fX13_readFlag
    rw [g1, bd2_p, if_pos (by decide), gM15 hr', show (1 : Int32) = I 1 from rfl, stM67 hS' (by omega)]
  · refine BEH_q g2 (fun j _ _ => ?_) ?_ (fun j _ _ => ?_) ?_ rfl
    · rw [setR_ne (by omega)]
    · rw [setR_ne (by omega)]
    · rw [setR_ne (by omega)]
    · rw [setR_ne (by omega)]
  · rw [setR_same, setR_ne (a := 67) (b := 64) (by omega), g4, g5, g6]
    exact DRF_s6 dr q0
  · rw [setR_ne (by omega)]
    omega
