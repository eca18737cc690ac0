theorem bd2_p {α β : Type} {a : α} {s : mm} {F : α → mm → Option β} : bd2 (some (a, s)) F = F a s := rfl
def FCp (Q Q' : Nat → Int → Int) (w w' : Nat → Nat → Int64) (rf rf' : Nat → Nat → Option Nat) : Prop := (∀ a, a ≠ 65 → ¬ (85 ≤ a ∧ a ≤ 103) → Q' a = Q a) ∧ (Q' 65 1 = Q 65 1 ∧ Q' 65 2 = Q 65 2) ∧ (∀ a j, ¬ (a = 65 ∧ j = 7) → ¬ (85 ≤ a ∧ a ≤ 103) → w' a j = w a j) ∧ (∀ a j, ¬ (a = 65 ∧ j = 8) → rf' a j = rf a j)
def FMp (R R' : Nat → Int → Int) (v v' : Nat → Nat → Int64) : Prop := (∀ a, a ≠ 64 → a ≠ 67 → R' a = R a) ∧ (∀ j, j < 5 ∨ 13 < j → j ≠ 24 → R' 64 j = R 64 j) ∧ (∀ a j, ¬ (a = 64 ∧ j = 12) → a ≠ 72 → v' a j = v a j)
theorem FCp_of {Q Q' : Nat → Int → Int} {w w' : Nat → Nat → Int64} {rf rf' : Nat → Nat → Option Nat} (h : fc65 Q Q' w w' rf rf') : FCp Q Q' w w' rf rf' := ⟨fun a h1 _ => h.1 a h1, h.2.1, fun a j h1 _ => h.2.2.1 a j h1, h.2.2.2⟩
theorem FCp_trans {Q Q' Q'' : Nat → Int → Int} {w w' w'' : Nat → Nat → Int64} {rf rf' rf'' : Nat → Nat → Option Nat} (h : FCp Q Q' w w' rf rf') (h2 : FCp Q' Q'' w' w'' rf' rf'') : FCp Q Q'' w w'' rf rf'' := ⟨fun a ha hb => (h2.1 a ha hb).trans (h.1 a ha hb), ⟨h2.2.1.1.trans h.2.1.1, h2.2.1.2.trans h.2.1.2⟩, fun a j ha hb => (h2.2.2.1 a j ha hb).trans (h.2.2.1 a j ha hb), fun a j ha => (h2.2.2.2 a j ha).trans (h.2.2.2 a j ha)⟩
theorem FCp_set {Q Q' : Nat → Int → Int} {w w' : Nat → Nat → Int64} {rf rf' : Nat → Nat → Option Nat} {a : Nat} {X : Int → Int} (h : FCp Q Q' w w' rf rf') (ha : 85 ≤ a ∧ a ≤ 103) : FCp Q (setR Q' a X) w w' rf rf' := by
  refine ⟨fun b h1 h2 => ?_, ⟨?_, ?_⟩, h.2.2⟩
  · rw [setR_ne (by omega)]; exact h.1 b h1 h2
  · rw [setR_ne (by omega)]; exact h.2.1.1
  · rw [setR_ne (by omega)]; exact h.2.1.2
theorem FCp_w {Q Q' : Nat → Int → Int} {w w' : Nat → Nat → Int64} {rf rf' : Nat → Nat → Option Nat} {a j : Nat} {c : Int64} (h : FCp Q Q' w w' rf rf') (ha : 85 ≤ a ∧ a ≤ 103) : FCp Q Q' w (up2 w' a j c) rf rf' :=
  ⟨h.1, h.2.1, fun b i h1 h2 => by rw [up2_out (by omega)]; exact h.2.2.1 b i h1 h2, h.2.2.2⟩
theorem FMp_of {R R' : Nat → Int → Int} {v v' : Nat → Nat → Int64} (h : fm64 R R' v v') : FMp R R' v v' := ⟨fun a h1 _ => h.1 a h1, fun j h1 _ => h.2.1 j h1, fun a j h1 _ => h.2.2 a j h1⟩
theorem FMp_refl {R : Nat → Int → Int} {v : Nat → Nat → Int64} : FMp R R v v := FMp_of fm_refl
theorem FMp_trans {R R' R'' : Nat → Int → Int} {v v' v'' : Nat → Nat → Int64} (h : FMp R R' v v') (h2 : FMp R' R'' v' v'') : FMp R R'' v v'' := ⟨fun a ha hb => (h2.1 a ha hb).trans (h.1 a ha hb), fun j hj hk => (h2.2.1 j hj hk).trans (h.2.1 j hj hk), fun a j ha hb => (h2.2.2 a j ha hb).trans (h.2.2 a j ha hb)⟩
theorem FMp_67 {R R' : Nat → Int → Int} {v v' : Nat → Nat → Int64} {X : Int → Int} (h : FMp R R' v v') : FMp R (setR R' 67 X) v v' := by
  refine ⟨fun b h1 h2 => ?_, fun j h1 h2 => ?_, h.2.2⟩
  · rw [setR_ne (by omega)]; exact h.1 b h1 h2
  · rw [setR_ne (by omega)]; exact h.2.1 j h1 h2
theorem FMp_24 {R R' : Nat → Int → Int} {v v' : Nat → Nat → Int64} {x : Int} (h : FMp R R' v v') : FMp R (setR R' 64 (updf (R' 64) 24 x)) v v' := by
  refine ⟨fun b h1 h2 => ?_, fun j h1 h2 => ?_, h.2.2⟩
  · rw [setR_ne h1]; exact h.1 b h1 h2
  · rw [setR_same, updf_ne h2]; exact h.2.1 j h1 h2
def PB (S' : Nat → Nat × Nat) (rm : Nat → Nat → Option Nat) (n : Int) (Q : Nat → Int → Int) (w : Nat → Nat → Int64) (rf : Nat → Nat → Option Nat) (R : Nat → Int → Int) (v : Nat → Nat → Int64) : Prop := RCok rf ∧ BEH S' rm Q R v n 900 ∧ DRF Q w (v 72) (R 64 24) (R 67)
def LO (S' : Nat → Nat × Nat) (rm : Nat → Nat → Option Nat) (n : Int) (Q : Nat → Int → Int) (w : Nat → Nat → Int64) (rf : Nat → Nat → Option Nat) (R : Nat → Int → Int) (v : Nat → Nat → Int64) (c m : Option (Int32 × mm)) : Prop := ∃ Q1 w1 rf1 R1 v1, FCp Q Q1 w w1 rf rf1 ∧ FMp R R1 v v1 ∧ RCok rf1 ∧ ((c = some (1, mk Q1 w1 rf1) ∧ m = some (1, mk R1 v1 rm) ∧ PB S' rm n Q1 w1 rf1 R1 v1 ∧ Q 65 3 ≤ Q1 65 3) ∨ (c = some (0, mk Q1 w1 rf1) ∧ m = some (0, mk R1 v1 rm) ∧ FAIL Q1 R1))
theorem M_put1 {S' : Nat → Nat × Nat} {R : Nat → Int → Int} {v : Nat → Nat → Int64} {rm : Nat → Nat → Option Nat} {z : Int} (hS' : SMok S') (hr' : RMok rm) (hz : 0 ≤ z ∧ z < 102) : fX13_put S' (mk R v rm) 64 (I z) 1 = some (1, mk (setR R 67 (updf (R 67) z (R 64 13))) v rm) := by
  have e13 : (mk R v rm).1 64 13 = I (R 64 13) := by rw [mk_1, castI]
  unfold fX13_put
  rw [if_neg (by decide), gM15 hr', e13, stM67 hS' hz]
  rfl
theorem M_put0 {S' : Nat → Nat × Nat} {σ : mm} {z : Int32} : fX13_put S' σ 64 z 0 = some (0, σ) := rfl
theorem M_readFirst {S' : Nat → Nat × Nat} {R R' : Nat → Int → Int} {v v' : Nat → Nat → Int64} {rm : Nat → Nat → Option Nat} {c k : Int} (hS' : SMok S') (hr' : RMok rm) (hc : 0 ≤ c ∧ c < 102) (hk : 0 ≤ k ∧ k ≤ 100) (hb : 0 ≤ R 67 c ∧ R 67 c ≤ 100) (h7 : R 64 7 = 2) (g : fX13_go S' (mk R v rm) 64 = some (mk R' v' rm)) : fX13_readFirst S' (mk R v rm) 64 (I c) (I k) = ii (R 67 c = k) (some (0, mk (badR R 4) v rm)) (some (1, mk R' v' rm)) := by
  unfold fX13_readFirst
  rw [gM15 hr', ldM67 hS' hc]
  by_cases q : R 67 c = k
  · rw [ii_t q, if_neg (fun hn => hn (by rw [q])), I_lit, M_bad (by omega) (by omega), bd2_p]
    rfl
  · rw [ii_f q, if_pos (fun hh => q ((I_eq (by omega) (by omega)).1 hh)), g, bd0_s]
theorem NUMP {S S' : Nat → Nat × Nat} {Q : Nat → Int → Int} {w : Nat → Nat → Int64} {rf : Nat → Nat → Option Nat} {R : Nat → Int → Int} {v : Nat → Nat → Int64} {rm : Nat → Nat → Option Nat} {n m : Int} {lo hi z : Int} (hS : SCok S) (hS' : SMok S') (hr : RCok rf) (hr' : RMok rm) (h : BEH S' rm Q R v n m) (hlo : -1000 ≤ lo ∧ lo ≤ 1000) (hhi : -1000 ≤ hi ∧ hi ≤ 1000) (hz : 0 ≤ z ∧ z < 102) : ∃ Q1 w1 rf1 R1 v1, RCok rf1 ∧ fc65 Q Q1 w w1 rf rf1 ∧ ((∃ x, (lo ≤ x ∧ x ≤ hi) ∧ fX8_takeNumber S (mk Q w rf) 65 (I lo) (I hi) = some (1, mk Q1 w1 rf1) ∧ Q1 65 6 = x ∧ (∀ F : Int32 → mm → Option (Int32 × mm), bd2 (fX13_readNumber S' (mk R v rm) 64 (I lo) (I hi)) (fun a τ => bd2 (fX13_put S' τ 64 (I z) a) F) = F 1 (mk R1 v1 rm)) ∧ BEH S' rm Q1 R1 v1 n m ∧ FMp R R1 v v1 ∧ R1 67 = updf (R 67) z x ∧ R1 64 24 = R 64 24 ∧ v1 72 = v 72 ∧ Q 65 3 < Q1 65 3) ∨ (fX8_takeNumber S (mk Q w rf) 65 (I lo) (I hi) = some (0, mk Q1 w1 rf1) ∧ (∀ F : Int32 → mm → Option (Int32 × mm), bd2 (fX13_readNumber S' (mk R v rm) 64 (I lo) (I hi)) (fun a τ => bd2 (fX13_put S' τ 64 (I z) a) F) = F 0 (mk R1 v1 rm)) ∧ FMp R R1 v v1 ∧ FAIL Q1 R1)) := by
  obtain ⟨Q1, w1, rf1, R1, v1, k1, k2, k3, k4⟩ := NUM (S := S) (w := w) (lo := lo) (hi := hi) hS hS' hr hr' h hlo hhi
  rcases k4 with ⟨a1, a2, a3, a4, a5, a6, a7⟩ | ⟨a1, a2, a3⟩
  · refine ⟨Q1, w1, rf1, setR R1 67 (updf (R1 67) z (R1 64 13)), v1, k1, k2, Or.inl ⟨R1 64 13, ⟨a5, a6⟩, a1, a4, fun F => ?_, ?_, FMp_67 (FMp_of k3), ?_, ?_, ?_, a7⟩⟩
    · rw [a2, bd2_p, M_put1 hS' hr' hz, bd2_p]
    · exact BEH_q a3 (fun _ _ _ => rfl) rfl (fun j _ _ => by rw [setR_ne (by omega)]) (by rw [setR_ne (by omega)]) rfl
    · rw [setR_same, k3.1 67 (by omega)]
    · rw [setR_ne (by omega)]; exact k3.2.1 24 (by omega)
    · funext j; exact k3.2.2 72 j (by omega)
  · refine ⟨Q1, w1, rf1, R1, v1, k1, k2, Or.inr ⟨a1, fun F => ?_, FMp_of k3, a3⟩⟩
    rw [a2, bd2_p, M_put0, bd2_p]
theorem NEWP {S S' : Nat → Nat × Nat} {Q : Nat → Int → Int} {w : Nat → Nat → Int64} {rf : Nat → Nat → Option Nat} {R : Nat → Int → Int} {v : Nat → Nat → Int64} {rm : Nat → Nat → Option Nat} {n m : Int} {o : Int} {slot : Nat} (hS : SCok S) (hS' : SMok S') (hr : RCok rf) (hr' : RMok rm) (h : BEH S' rm Q R v n m) (dr : DRF Q w (v 72) o (R 67)) (hsl : slot < 18) : ∃ Q1 w1 rf1 R1 v1, RCok rf1 ∧ fc65 Q Q1 w w1 rf rf1 ∧ FMp R R1 v v1 ∧ ((fX5_takeNewName S (mk Q w rf) 103 = some (1, mk Q1 w1 rf1) ∧ fX13_readNew S' (mk R v rm) 64 (I slot) = some (1, mk R1 v1 rm) ∧ BEH S' rm Q1 R1 v1 n m ∧ nmR (w1 65 7) (v1 72 slot) ∧ Q 65 3 < Q1 65 3 ∧ R1 67 = R 67 ∧ R1 64 24 = R 64 24 ∧ (∀ j, j ≠ slot → v1 72 j = v 72 j)) ∨ (fX5_takeNewName S (mk Q w rf) 103 = some (0, mk Q1 w1 rf1) ∧ fX13_readNew S' (mk R v rm) 64 (I slot) = some (0, mk R1 v1 rm) ∧ FAIL Q1 R1)) := by
  obtain ⟨Q1, w1, rf1, R1, v1, k1, k2, k3, k4⟩ := NEW (S := S) (w := w) hS hS' hr hr' h dr hsl
  refine ⟨Q1, w1, rf1, R1, v1, k1, k2, ⟨fun a h1 h2 => k3.1 a h1, fun j h1 h2 => k3.2.1 j h1, fun a j h1 h2 => k3.2.2 a j h1 (by omega)⟩, ?_⟩
  rcases k4 with ⟨a1, a2, a3, a4, a5⟩ | a
  · exact Or.inl ⟨a1, a2, a3, a4, a5, k3.1 67 (by omega), k3.2.1 24 (by omega), fun j hj => k3.2.2 72 j (by omega) (by omega)⟩
  · exact Or.inr a
theorem fmp_dr {R R1 : Nat → Int → Int} {v v1 : Nat → Nat → Int64} (h : fm64 R R1 v v1) : v1 72 = v 72 ∧ R1 64 24 = R 64 24 ∧ R1 67 = R 67 := ⟨funext (fun j => h.2.2 72 j (by omega)), h.2.1 24 (by omega), h.1 67 (by omega)⟩
theorem L_person {S S' : Nat → Nat × Nat} {Q : Nat → Int → Int} {w : Nat → Nat → Int64} {rf : Nat → Nat → Option Nat} {R : Nat → Int → Int} {v : Nat → Nat → Int64} {rm : Nat → Nat → Option Nat} {n : Int} (hS : SCok S) (hS' : SMok S') (hr : RCok rf) (hr' : RMok rm) (sy : SYN Q w rf R v n 900) (h7 : R 64 7 = 2) (dr : DRF Q w (v 72) (R 64 24) (R 67)) : LO S' rm n Q w rf R v (fX5_readPerson S (mk Q w rf) 103) (fX13_readPerson S' (mk R v rm) 64) := by
  have wf := dr.1
  have wn0 := wf.1
  obtain ⟨R1, v1, g1, g2, g3⟩ := goS (w := w) hS hS' hr hr' sy (by omega)
  have g4 := fmp_dr (fm_of g3)
  have mf := M_readFirst (S' := S') (c := 0) (k := 8) hS' hr' (by omega) (by omega) (by omega) h7 g1
  have c6 : (mk Q w rf).1 85 6 = I (R 67 0) := by rw [mk_1, castI, dr.2.1.1.1]
  by_cases full : R 67 0 = 8
  · rw [ii_t full] at mf
    refine ⟨failQ Q 4, w, rf, badR R 4, v, FCp_of (fc_fail fc_refl), FMp_of (fm_bad fm_refl), hr, Or.inr ⟨?_, ?_, FAIL_mk sy.2⟩⟩
    · unfold fX5_readPerson
      rw [gC103_1 hr, nm_eq, c6, if_neg (by rw [full]; decide), gC103_0 hr, I_lit, C_fails, bd2_p]
      rfl
    · unfold fX13_readPerson
      rw [show (0 : Int32) = I 0 from rfl, show (8 : Int32) = I 8 from rfl, mf, bd2_p]
      rfl
  rw [ii_f full] at mf
  obtain ⟨p, hp⟩ : ∃ p : Nat, R 67 0 = p := ⟨(R 67 0).toNat, by omega⟩
  have hp8 : p < 8 := by omega
  have ep : ((p : Int)).toNat = p := by omega
  rw [hp] at c6
  have lt : I (p : Int) < (8 : Int32) := by rw [I_lit, I_lt (by omega) (by omega)]; omega
  have e0 : ∀ (R2 : Nat → Int → Int) (v2 : Nat → Nat → Int64) (F : Int32 → Option (Int32 × mm)), ldI S' (mk R2 v2 rm) 67 0 F = F (I (R2 67 0)) := fun R2 v2 F => ldM67 (z := 0) hS' (by omega)
  have dr1 : DRF Q w (v1 72) (R1 64 24) (R1 67) := by rw [g4.1, g4.2.1, g4.2.2]; exact dr
  obtain ⟨Q2, w2, rf2, R2, v2, k1, k2, k3, k4⟩ := NEWP (S := S) (w := w) (slot := p) hS hS' hr hr' g2 dr1 (by omega)
  have mpre : fX13_readPerson S' (mk R v rm) 64 = bd2 (fX13_readNew S' (mk R1 v1 rm) 64 (I p)) fun v5 τ6 => if v5 = 0 then fX13_readPerson_b81 S' τ6 else bd2 (fX13_readNumber S' τ6 64 (I 0) (I 23)) fun v7 τ8 => bd2 (fX13_put S' τ8 64 (I (8 + p)) v7) fun v9 τ10 => if v9 = 0 then fX13_readPerson_b81 S' τ10 else bd2 (fX13_readNumber S' τ10 64 (I 0) (I 23)) fun v11 τ12 => bd2 (fX13_put S' τ12 64 (I (16 + p)) v11) fun v13 τ14 => if v13 = 0 then fX13_readPerson_b81 S' τ14 else bd2 (fX13_readNumber S' τ14 64 (I 0) (I 99)) fun v15 τ16 => bd2 (fX13_put S' τ16 64 (I (24 + p)) v15) fun v17 τ18 => if ¬ v17 = 0 then gR τ18 64 15 fun r19 => ldI S' τ18 r19 (0 : Int32) fun v20 => stI S' τ18 r19 (0 : Int32) (v20 + (1 : Int32)) fun τ21 => some ((1 : Int32), τ21) else fX13_readPerson_b81 S' τ18 := by
    unfold fX13_readPerson
    rw [show fX13_readFirst S' (mk R v rm) 64 0 8 = _ from mf, bd2_p, if_pos (by decide), gM15 hr', e0, g4.2.2, hp]
    simp only [I_lit, I_add]
  have cpre : fX5_readPerson S (mk Q w rf) 103 = bd2 (fX5_takeNewName S (mk Q w rf) 103) fun v3 τ4 => if ¬ v3 = 0 then gR τ4 103 1 fun r5 => gR τ4 r5 0 fun r6 => gR τ4 103 0 fun r7 => stL S τ4 r6 (I p) (τ4.2.1 r7 7) fun τ8 => gR τ8 103 0 fun r9 => bd2 (fX8_takeNumber S τ8 r9 (I 0) (I 23)) fun v10 τ11 => if ¬ v10 = 0 then gR τ11 103 1 fun r12 => gR τ11 r12 1 fun r13 => gR τ11 103 0 fun r14 => stI S τ11 r13 (I p) (τ11.1 r14 6) fun τ15 => gR τ15 103 0 fun r16 => bd2 (fX8_takeNumber S τ15 r16 (I 0) (I 23)) fun v17 τ18 => if ¬ v17 = 0 then gR τ18 103 1 fun r19 => gR τ18 r19 2 fun r20 => gR τ18 103 0 fun r21 => stI S τ18 r20 (I p) (τ18.1 r21 6) fun τ22 => gR τ22 103 0 fun r23 => bd2 (fX8_takeNumber S τ22 r23 (I 0) (I 99)) fun v24 τ25 => if ¬ v24 = 0 then gR τ25 103 1 fun r26 => gR τ25 r26 3 fun r27 => gR τ25 103 0 fun r28 => stI S τ25 r27 (I p) (τ25.1 r28 6) fun τ29 => gR τ29 103 1 fun r30 => gR τ29 r30 4 fun r31 => stI S τ29 r31 (I p) (I 0) fun τ32 => gR τ32 103 1 fun r33 => gR τ32 r33 5 fun r34 => stI S τ32 r34 (I p) (I 0) fun τ35 => gR τ35 103 1 fun r36 => wI τ35 r36 6 ((τ35.1 r36 6) + (I 1)) fun τ37 => some ((1 : Int32), τ37) else some ((0 : Int32), τ25) else some ((0 : Int32), τ18) else some ((0 : Int32), τ11) else some ((0 : Int32), τ4) := by
    unfold fX5_readPerson
    rw [gC103_1 hr, nm_eq, c6, if_pos lt]
    rfl
  rcases k4 with ⟨a1, a2, a3, a4, a5, a6, a7, a8⟩ | ⟨a1, a2, a3⟩
  rotate_left
  · refine ⟨Q2, w2, rf2, R2, v2, FCp_of k2, FMp_trans (FMp_of (fm_of g3)) k3, k1, Or.inr ⟨?_, ?_, a3⟩⟩
    · rw [cpre, a1, bd2_p, if_neg (by decide)]
    · rw [mpre, a2, bd2_p, if_pos rfl]
      rfl
  rw [a2, bd2_p, if_neg (by decide)] at mpre
  rw [a1, bd2_p, if_pos (by decide), gC103_1 k1, gD85_0 k1, gC103_0 k1, stD86 hS (by omega), gC103_0 k1, ep, mk_2] at cpre
  generalize hw2 : up2 w2 86 p (w2 65 7) = w2' at cpre
  have dr2 : DRF Q2 w2' (v2 72) (R 64 24) (R 67) := by
    have d := DRF_fc dr k2
    refine DRF_nm (row := 86) (slot := p) (zn := p) d (fun a j i1 i2 => ?_) (fun j hj => ?_) (Or.inl ⟨rfl, rfl, by omega, hp8⟩)
    · rw [← hw2, up2_out i1]
    · rw [a8 j hj, g4.1]
  have nm2 : nmR (w2' 86 p) (v2 72 p) := by rw [← hw2, up2_same]; exact a4
  have FC2 : FCp Q Q2 w w2' rf rf2 := by rw [← hw2]; exact FCp_w (FCp_of k2) (by omega)
  have FM2 : FMp R R2 v v2 := FMp_trans (FMp_of (fm_of g3)) k3
  obtain ⟨Q3, w3, rf3, R3, v3, l1, l2, l3⟩ := NUMP (S := S) (w := w2') (lo := 0) (hi := 23) (z := 8 + p) hS hS' k1 hr' a3 (by omega) (by omega) (by omega)
  rcases l3 with ⟨x1, b1, b2', b3, b4, b5, b6, b7, b8, b9, b10⟩ | ⟨b1, b2', b3, b4⟩
  rotate_left
  · refine ⟨Q3, w3, rf3, R3, v3, FCp_trans FC2 (FCp_of l2), FMp_trans FM2 b3, l1, Or.inr ⟨?_, ?_, b4⟩⟩
    · rw [cpre, b1, bd2_p, if_neg (by decide)]
    · rw [mpre, b2', if_pos rfl]
      rfl
  rw [b4, if_neg (by decide)] at mpre
  rw [b2', bd2_p, if_pos (by decide), gC103_1 l1, gD85_1 l1, gC103_0 l1, mk_1, castI, b3, stD87 hS (by omega), gC103_0 l1] at cpre
  generalize hq3 : setR Q3 87 (updf (Q3 87) p x1) = Q3' at cpre
  have q3o : ∀ a, a ≠ 87 → Q3' a = Q3 a := fun a ha => by rw [← hq3, setR_ne ha]
  have FC3 : FCp Q Q3' w w3 rf rf3 := by rw [← hq3]; exact FCp_set (FCp_trans FC2 (FCp_of l2)) (by omega)
  have bh3 : BEH S' rm Q3' R3 v3 n 900 := BEH_q b5 (fun j _ _ => by rw [q3o 65 (by omega)]) (q3o 66 (by omega)) (fun _ _ _ => rfl) rfl rfl
  have dr3 : DRF Q3' w3 (v3 72) (R3 64 24) (R3 67) := by
    rw [b7, b8, b9, a7, a6, g4.2.1, g4.2.2, ← hq3]
    exact DRF_u87 (DRF_fc dr2 l2) (by omega) b1
  obtain ⟨Q4, w4, rf4, R4, v4, m1, m2, m3⟩ := NUMP (S := S) (w := w3) (lo := 0) (hi := 23) (z := 16 + p) hS hS' l1 hr' bh3 (by omega) (by omega) (by omega)
  have FM3 : FMp R R3 v v3 := FMp_trans FM2 b6
  rcases m3 with ⟨x2, d1, d2, d3, d4, d5, d6, d7, d8, d9, d10⟩ | ⟨d1, d2, d3, d4⟩
  rotate_left
  · refine ⟨Q4, w4, rf4, R4, v4, FCp_trans FC3 (FCp_of m2), FMp_trans FM3 d3, m1, Or.inr ⟨?_, ?_, d4⟩⟩
    · rw [cpre, d1, bd2_p, if_neg (by decide)]
    · rw [mpre, d2, if_pos rfl]
      rfl
  rw [d4, if_neg (by decide)] at mpre
  rw [d2, bd2_p, if_pos (by decide), gC103_1 m1, gD85_2 m1, gC103_0 m1, mk_1, castI, d3, stD88 hS (by omega), gC103_0 m1] at cpre
  generalize hq4 : setR Q4 88 (updf (Q4 88) p x2) = Q4' at cpre
  have q4o : ∀ a, a ≠ 88 → Q4' a = Q4 a := fun a ha => by rw [← hq4, setR_ne ha]
  have FC4 : FCp Q Q4' w w4 rf rf4 := by rw [← hq4]; exact FCp_set (FCp_trans FC3 (FCp_of m2)) (by omega)
  have bh4 : BEH S' rm Q4' R4 v4 n 900 := BEH_q d5 (fun j _ _ => by rw [q4o 65 (by omega)]) (q4o 66 (by omega)) (fun _ _ _ => rfl) rfl rfl
  have dr4 : DRF Q4' w4 (v4 72) (R4 64 24) (R4 67) := by
    rw [d7, d8, d9, ← hq4]
    exact DRF_u88 (DRF_fc dr3 m2) (by omega) d1
  have FM4 : FMp R R4 v v4 := FMp_trans FM3 d6
  obtain ⟨Q5, w5, rf5, R5, v5, n1, n2, n3⟩ := NUMP (S := S) (w := w4) (lo := 0) (hi := 99) (z := 24 + p) hS hS' m1 hr' bh4 (by omega) (by omega) (by omega)
  rcases n3 with ⟨x3, e1, e2, e3, e4, e5, e6, e7, e8, e9, e10⟩ | ⟨e1, e2, e3, e4⟩
  rotate_left
  · refine ⟨Q5, w5, rf5, R5, v5, FCp_trans FC4 (FCp_of n2), FMp_trans FM4 e3, n1, Or.inr ⟨?_, ?_, e4⟩⟩
    · rw [cpre, e1, bd2_p, if_neg (by decide)]
    · rw [mpre, e2, if_neg (by decide)]
      rfl
  have dr5 : DRF (setR Q5 89 (updf (Q5 89) p x3)) w5 (v5 72) (R5 64 24) (R5 67) := by
    rw [e7, e8, e9]
    exact DRF_u89 (DRF_fc dr4 n2) (by omega) e1
  have n0 : R5 67 0 = p := by rw [e7, updf_ne (by omega), d7, updf_ne (by omega), b7, updf_ne (by omega), a6, g4.2.2, hp]
  rw [e4, if_pos (by decide), gM15 hr', e0, n0, show (0 : Int32) = I 0 from rfl, show (1 : Int32) = I 1 from rfl, I_add, stM67 hS' (by omega)] at mpre
  rw [e2, bd2_p, if_pos (by decide), gC103_1 n1, gD85_3 n1, gC103_0 n1, mk_1, castI, e3, stD89 hS (by omega), gC103_1 n1, gD85_4 n1, stD90 hS (by omega), gC103_1 n1, gD85_5 n1, stD91 hS (by omega), gC103_1 n1, mk_1, castI, I_add, wI_mk] at cpre
  generalize hq5 : setR Q5 89 (updf (Q5 89) p x3) = Q5' at cpre dr5
  have q5o : ∀ a, a ≠ 89 → Q5' a = Q5 a := fun a ha => by rw [← hq5, setR_ne ha]
  have dr6 := DRF_o91 (x := 0) (z := p) (DRF_o90 (x := 0) (z := p) dr5 (by omega)) (by omega)
  generalize hq6 : setR (setR Q5' 90 (updf (Q5' 90) p 0)) 91 (updf (setR Q5' 90 (updf (Q5' 90) p 0) 91) p 0) = Q6 at cpre dr6
  have q6o : ∀ a, a ≠ 90 → a ≠ 91 → Q6 a = Q5' a := fun a ha hb => by rw [← hq6, setR_ne hb, setR_ne ha]
  have r85 : Q6 85 6 = p := by
    have := dr6.2.1.1.1
    rw [this, n0]
  rw [r85] at cpre
  have row87 : Q6 87 p = x1 := by rw [q6o 87 (by omega) (by omega), q5o 87 (by omega), n2.1 87 (by omega), q4o 87 (by omega), m2.1 87 (by omega), ← hq3, setR_same, updf_same rfl]
  have row88 : Q6 88 p = x2 := by rw [q6o 88 (by omega) (by omega), q5o 88 (by omega), n2.1 88 (by omega), ← hq4, setR_same, updf_same rfl]
  have row89 : Q6 89 p = x3 := by rw [q6o 89 (by omega) (by omega), ← hq5, setR_same, updf_same rfl]
  have row90 : Q6 90 p = 0 := by rw [← hq6, setR_ne (by omega), setR_same, updf_same rfl]
  have row91 : Q6 91 p = 0 := by rw [← hq6, setR_same, updf_same rfl]
  have N8 : R5 67 (8 + p) = x1 := by rw [e7, updf_ne (by omega), d7, updf_ne (by omega), b7, updf_same rfl]
  have N16 : R5 67 (16 + p) = x2 := by rw [e7, updf_ne (by omega), d7, updf_same rfl]
  have N24 : R5 67 (24 + p) = x3 := by rw [e7, updf_same rfl]
  have w86 : w5 86 p = w2' 86 p := by rw [n2.2.2.1 86 p (by omega), m2.2.2.1 86 p (by omega), l2.2.2.1 86 p (by omega)]
  have v86 : v5 72 p = v2 72 p := by rw [e9, d9, b9]
  have dr7 := DRF_n0 dr6 (by omega) (by rw [n0, ep, w86, Nat.zero_add, v86]; exact nm2) (by rw [n0, row87, row88, row89, row90, row91, N8, N16, N24]; exact ⟨rfl, rfl, rfl, rfl, rfl⟩)
  rw [n0] at dr7
  refine ⟨setR Q6 85 (updf (Q6 85) 6 (p + 1)), w5, rf5, setR R5 67 (updf (R5 67) 0 (p + 1)), v5, ?_, FMp_67 (FMp_trans FM4 e6), n1, Or.inl ⟨cpre, mpre, ⟨n1, ?_, ?_⟩, ?_⟩⟩
  · refine FCp_set ?_ (by omega)
    rw [← hq6]
    refine FCp_set (FCp_set ?_ (by omega)) (by omega)
    rw [← hq5]
    exact FCp_set (FCp_trans FC4 (FCp_of n2)) (by omega)
  · refine BEH_q e5 (fun j _ _ => ?_) ?_ (fun j _ _ => ?_) ?_ rfl
    · rw [setR_ne (by omega), q6o 65 (by omega) (by omega), q5o 65 (by omega)]
    · rw [setR_ne (by omega), q6o 66 (by omega) (by omega), q5o 66 (by omega)]
    · rw [setR_ne (by omega)]
    · rw [setR_ne (by omega)]
  · rw [setR_same, setR_ne (a := 67) (b := 64) (by omega)]
    exact dr7
  · rw [setR_ne (by omega), q6o 65 (by omega) (by omega), q5o 65 (by omega)]
    rw [q4o 65 (by omega)] at e10
    rw [q3o 65 (by omega)] at d10
    omega
