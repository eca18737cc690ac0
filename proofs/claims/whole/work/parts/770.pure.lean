theorem C_mayBegin {S : Nat → Nat × Nat} {σ : mm} {c : Nat} (hc : c < 31) : fX7_mayBegin S σ c = some (b2 (21 ≤ c ∧ c ≤ 30)) := by
  have sw : ∀ k : Fin 31, (k.val = 21 → swm k.val = 17) ∧ (k.val = 22 → swm k.val = 18) ∧ (k.val = 23 → swm k.val = 19) ∧ (k.val = 24 → swm k.val = 20) ∧ (k.val = 25 → swm k.val = 21) ∧ (k.val = 26 → swm k.val = 22) ∧ (¬ (21 ≤ k.val ∧ k.val ≤ 26) → swm k.val ≠ 17 ∧ swm k.val ≠ 18 ∧ swm k.val ≠ 19 ∧ swm k.val ≠ 20 ∧ swm k.val ≠ 21 ∧ swm k.val ≠ 22) := by decide +kernel
  obtain ⟨h1, h2, h3, h4, h5, h6, h7⟩ := sw ⟨c, hc⟩
  dsimp only at h1 h2 h3 h4 h5 h6 h7
  unfold fX7_mayBegin
  rw [ldS_k hc]
  by_cases g : 21 ≤ c ∧ c ≤ 26
  · rw [b2_t (by omega)]
    have : c = 21 ∨ c = 22 ∨ c = 23 ∨ c = 24 ∨ c = 25 ∨ c = 26 := by omega
    rcases this with h | h | h | h | h | h
    · rw [h1 h]; rfl
    · rw [h2 h]; rfl
    · rw [h3 h]; rfl
    · rw [h4 h]; rfl
    · rw [h5 h]; rfl
    · rw [h6 h]; rfl
  · obtain ⟨n1, n2, n3, n4, n5', n6⟩ := h7 g
    rw [if_neg n1, if_neg n2, if_neg n3, if_neg n4, if_neg n5', if_neg n6, C_meas, bd0_s]
    by_cases q : 27 ≤ c ∧ c ≤ 30
    · rw [b2_t q, b2_t (by omega)]; rfl
    · rw [b2_f q, b2_f (by omega)]; rfl
theorem M_saidLoop {F : Nat → mm → Nat → Option (Int32 × mm)} {S' : Nat → Nat × Nat} {Q R : Nat → Int → Int} {cc : Int64} {v : Nat → Nat → Int64} {rm : Nat → Nat → Option Nat} {n : Int} {c : Nat} {x : Int32} (h : TK Q cc (some c) R (v 64 12) n) : loopN (fX13_readSaid_L10 F S' (mk R v rm) 64 x) 1000 (19 : Int32) = some (I (ii (21 ≤ c ∧ c ≤ 30) ((c : Int) - 2) 29)) := by
  have iw : ∀ j : Nat, j < 29 → fX13_isWord S' (mk R v rm) 64 (I j) = some (b2 (c = j + 2)) := fun j hj => by
    rw [M_isWord h hj]
    exact congrArg (fun x => some (b2 x)) (propext ⟨Option.some.inj, congrArg some⟩)
  by_cases q : 21 ≤ c ∧ c ≤ 30
  · rw [ii_t q]
    refine loop_seq (f := fX13_readSaid_L10 F S' (mk R v rm) 64 x) (m := 1000) (fun k => I ((19 + k : Nat) : Int)) (c - 21) (by omega) ?_ ?_
    · intro k hk
      have l28 : ¬ ((28 : Int32) < I ((19 + k : Nat) : Int)) := by rw [I_lit, I_lt (by omega) (by omega)]; omega
      unfold fX13_readSaid_L10
      rw [if_neg l28, iw (19 + k) (by omega), bd0_s, if_neg (by rw [b2_f (by omega)]; decide), nm_eq, show (1 : Int32) = I 1 from rfl, I_add]
      rfl
    · have l28 : ¬ ((28 : Int32) < I ((19 + (c - 21) : Nat) : Int)) := by rw [I_lit, I_lt (by omega) (by omega)]; omega
      unfold fX13_readSaid_L10
      rw [if_neg l28, iw (19 + (c - 21)) (by omega), bd0_s, if_pos (by rw [b2_t (by omega)]; decide)]
      congr 3
      omega
  · rw [ii_f q]
    refine loop_seq (f := fX13_readSaid_L10 F S' (mk R v rm) 64 x) (m := 1000) (fun k => I ((19 + k : Nat) : Int)) 10 (by omega) ?_ ?_
    · intro k hk
      have l28 : ¬ ((28 : Int32) < I ((19 + k : Nat) : Int)) := by rw [I_lit, I_lt (by omega) (by omega)]; omega
      unfold fX13_readSaid_L10
      rw [if_neg l28, iw (19 + k) (by omega), bd0_s, if_neg (by rw [b2_f (by omega)]; decide), nm_eq, show (1 : Int32) = I 1 from rfl, I_add]
      rfl
    · rfl
theorem SO_pre {S' : Nat → Nat × Nat} {rm : Nat → Nat → Option Nat} {n : Int} {L : List (Int × Int × Int × Int)} {o wi : Int} {Q Q0 : Nat → Int → Int} {w w0 : Nat → Nat → Int64} {rf rf0 : Nat → Nat → Option Nat} {R R0 : Nat → Int → Int} {v v0 : Nat → Nat → Int64} {c m : Option (Int32 × mm)} (h : SO S' rm n L o wi Q w rf R v c m) (fc : FCs Q0 Q w0 w rf0 rf) (fm : FMs R0 R v0 v) (e : R 81 = R0 81) : SO S' rm n L o wi Q0 w0 rf0 R0 v0 c m := by
  obtain ⟨Q1, w1, rf1, R1, v1, a1, a2, a3, a4⟩ := h
  refine ⟨Q1, w1, rf1, R1, v1, FCs_trans fc a1, FMs_trans fm a2, a3, ?_⟩
  rcases a4 with ⟨T, o1, l1, l2, b1, b2', b3, b4, b5, b6, b7⟩ | a4
  · exact Or.inl ⟨T, o1, l1, l2, b1, b2', b3, b4, b5, fun j h1 h2 => by rw [b6 j h1 h2, e], b7⟩
  · exact Or.inr a4
theorem S_ONE {S S' : Nat → Nat × Nat} {rm : Nat → Nat → Option Nat} {n wi : Int} {FC : Nat → mm → Nat → Nat → Nat → Int32 → Option (Int32 × mm)} {FM GM : Nat → mm → Nat → Option (Int32 × mm)} (hS : SCok S) (hS' : SMok S') (hr' : RMok rm) (hw : 0 ≤ wi ∧ wi ≤ 8) (hB : ∀ σ, FM 1 σ 64 = fX13_readBracket GM S' σ 64) (hN : ∀ σ, FM 2 σ 64 = fX13_readNot GM S' σ 64) (cond : wi < 8 → RS S' rm n (wi + 1) (fun σ => FC 1 σ 201 65 67 (I (wi + 1))) (fun σ => GM 3 σ 64)) (one : wi < 8 → RS S' rm n (wi + 1) (fun σ => FC 2 σ 201 65 67 (I (wi + 1))) (fun σ => GM 4 σ 64)) : RS S' rm n wi (fun σ => fX7_readOne FC S σ 201 65 67 (I wi)) (fun σ => fX13_readSaid FM S' σ 64) := by
  intro Q w rf R v L o hr sy ss pn h41
  dsimp only
  obtain ⟨c, hc, hst, h2⟩ := TK_stk sy.2
  have s5 := ss.2.2.1
  have tkr := TK_k sy.2
  have pre : ∀ F : Nat → Option (Int32 × mm), gR (mk Q w rf) 65 8 F = F c := fun F => gR_mk hst
  have q4 : (mk Q w rf).1 65 4 = I (Q 65 4) := by rw [mk_1, castI]
  have sg : fX13_isSign S' (mk R v rm) 64 (40 : Int32) = some (b2 (Q 65 4 = 40)) := M_isSign (s := 40) sy.2 (by unfold sgn; omega)
  have sl : loopN (fX13_readSaid_L10 FM S' (mk R v rm) 64 (b2 (Q 65 4 = 40))) 1000 (19 : Int32) = some (I (ii (21 ≤ c ∧ c ≤ 30) ((c : Int) - 2) 29)) := M_saidLoop (by have := sy.2; rw [hst] at this; exact this)
  -- a bracket is no word
  have k40 : Q 65 4 = 40 → c = 0 ∧ R 64 7 = 4 := fun h => by
    have : R 64 7 = 4 := by
      rcases sy.2.2.2 with ⟨z1, z2, -⟩ | ⟨z1, z2, -⟩ | ⟨z1, -⟩ | ⟨z1, z2, -⟩ | ⟨z1, z2, -⟩ <;> omega
    exact ⟨Classical.byContradiction fun h3 => by have := h2.1 h3; omega, this⟩
  have mpre : fX13_readSaid FM S' (mk R v rm) 64 = fX13_readSaid_b30 FM S' (mk R v rm) 64 (b2 (Q 65 4 = 40)) (I (ii (21 ≤ c ∧ c ≤ 30) ((c : Int) - 2) 29)) := by
    unfold fX13_readSaid
    rw [sg, bd0_s, sl, bd0_s]
  have cpre : fX7_readOne FC S (mk Q w rf) 201 65 67 (I wi) = fX7_readOne_b14 FC S (mk Q w rf) 201 65 67 (I wi) (b2 (Q 65 4 = 40)) := by
    unfold fX7_readOne
    rw [q4]
    by_cases h : Q 65 4 = 40
    · rw [if_neg (fun h3 => h3 (by rw [h]; rfl)), b2_t h]
    · rw [if_pos (by rw [I_lit, I_eq (by omega) (by omega)]; exact h), b2_f h]
  by_cases bg : Q 65 4 = 40 ∨ (21 ≤ c ∧ c ≤ 30)
  rotate_left
  · have nb : ¬ (Q 65 4 = 40) := fun h => bg (Or.inl h)
    have nc : ¬ (21 ≤ c ∧ c ≤ 30) := fun h => bg (Or.inr h)
    rw [cpre, mpre, b2_f nb, ii_f nc]
    unfold fX7_readOne_b14 fX13_readSaid_b30
    rw [if_neg (fun h => h rfl), pre, C_mayBegin hc, bd0_s, if_neg (by rw [b2_f nc]; decide), show (1 : Int32) = I 1 from rfl, C_fails, bd2_p, if_neg (fun h => h rfl), if_neg (by decide), M_bad (Or.inr rfl) tkr.1, bd2_p]
    exact ⟨failQ Q 1, w, rf, badR R 1, v, FCs_of (fc_fail fc_refl), FMs_of (fm_bad fm_refl), hr, Or.inr ⟨rfl, rfl, FAIL_mk sy.2⟩⟩
  have n1 : R 64 7 ≠ 1 := by
    rcases bg with h | h
    · have := (k40 h).2; omega
    · have := h2.1 (by omega); omega
  have cpre2 : fX7_readOne FC S (mk Q w rf) 201 65 67 (I wi) = fX7_readOne_b37 FC S (mk Q w rf) 201 65 67 (I wi) (b2 (Q 65 4 = 40)) := by
    rw [cpre]
    unfold fX7_readOne_b14
    by_cases h : Q 65 4 = 40
    · rw [if_pos (by rw [b2_t h]; decide)]
    · have h' : 21 ≤ c ∧ c ≤ 30 := by omega
      rw [if_neg (by rw [b2_f h]; decide), pre, C_mayBegin hc, bd0_s, if_pos (by rw [b2_t h']; decide)]
  have mpre2 : fX13_readSaid FM S' (mk R v rm) 64 = fX13_readSaid_b46 FM S' (mk R v rm) 64 (b2 (Q 65 4 = 40)) (I (ii (21 ≤ c ∧ c ≤ 30) ((c : Int) - 2) 29)) := by
    rw [mpre]
    unfold fX13_readSaid_b30
    by_cases h : Q 65 4 = 40
    · rw [if_pos (by rw [b2_t h]; decide)]
    · have h' : 21 ≤ c ∧ c ≤ 30 := by omega
      rw [if_neg (by rw [b2_f h]; decide), ii_t h', if_pos (by rw [I_lit, I_le (by omega) (by omega)]; omega)]
  rw [cpre2, mpre2]
  unfold fX7_readOne_b37 fX13_readSaid_b46
  have e4 : (mk Q w rf).1 201 4 = I o := by rw [mk_1, castI, ss.2.1.1]
  have e40 : (mk R v rm).1 64 40 = I o := by rw [mk_1, castI, ss.2.1.2]
  have e41 : (mk R v rm).1 64 41 = I wi := by rw [mk_1, castI, h41]
  have many : fX7_readOne_b52 FC S (mk Q w rf) 65 = some (0, mk (failQ Q 4) w rf) ∧ fX13_readSaid_b64 FM S' (mk R v rm) 64 = some (0, mk (badR R 4) v rm) := by
    unfold fX7_readOne_b52 fX13_readSaid_b64
    rw [show (4 : Int32) = I 4 from rfl, C_fails, bd2_p, M_bad (Or.inl n1) tkr.1, bd2_p]
    exact ⟨rfl, rfl⟩
  have mout : SO S' rm n L o wi Q w rf R v (some (0, mk (failQ Q 4) w rf)) (some (0, mk (badR R 4) v rm)) := ⟨failQ Q 4, w, rf, badR R 4, v, FCs_of (fc_fail fc_refl), FMs_of (fm_bad fm_refl), hr, Or.inr ⟨rfl, rfl, FAIL_mk sy.2⟩⟩
  rw [e4, e40, many.1, many.2]
  by_cases o20 : o = 20
  · rw [if_pos (by rw [o20]; decide), if_pos (by rw [o20]; rfl)]
    exact mout
  have n20 : ¬ ((20 : Int32) ≤ I o) := by rw [I_lit, I_le (by omega) (by omega)]; omega
  have ne20 : ¬ (I o = (20 : Int32)) := by rw [I_lit, I_eq (by omega) (by omega)]; omega
  rw [if_neg n20, if_neg ne20, e41]
  by_cases w8 : wi = 8
  · have lt8 : ¬ (I wi < (8 : Int32)) := by rw [w8]; decide
    have eq8 : ¬ ¬ (I wi = (8 : Int32)) := fun h => h (by rw [w8]; rfl)
    rw [if_neg lt8, if_neg eq8]
    exact mout
  have lt8 : I wi < (8 : Int32) := by rw [I_lit, I_lt (by omega) (by omega)]; omega
  have eq8 : ¬ (I wi = (8 : Int32)) := by rw [I_lit, I_eq (by omega) (by omega)]; omega
  rw [if_pos lt8, if_pos eq8, show (1 : Int32) = I 1 from rfl, I_add, I_add, wI_mk, castI, wI_mk, castI]
  generalize hq1 : setR Q 201 (updf (Q 201) 4 (o + 1)) = Q1
  have q1o : ∀ a, a ≠ 201 → Q1 a = Q a := fun a ha => by rw [← hq1, setR_ne ha]
  have e41' : (mk (setR R 64 (updf (R 64) 40 (o + 1))) v rm).1 64 41 = I wi := by rw [mk_1, castI, setR_same, updf_ne (by omega), h41]
  rw [e41', I_add, wI_mk, castI, setR_same, setR_setR]
  generalize hr1 : setR R 64 (updf (updf (R 64) 40 (o + 1)) 41 (wi + 1)) = R1
  have r1o : ∀ a, a ≠ 64 → R1 a = R a := fun a ha => by rw [← hr1, setR_ne ha]
  have r1j : ∀ j, j ≠ 40 → j ≠ 41 → R1 64 j = R 64 j := fun j h1 h2 => by rw [← hr1, setR_same, updf_ne h2, updf_ne h1]
  have r141 : R1 64 41 = wi + 1 := by rw [← hr1, setR_same, updf_same rfl]
  have sy1 : SYN Q1 w rf R1 v n 200 := SYN_q sy (fun j _ _ => by rw [q1o 65 (by omega)]) (q1o 66 (by omega)) (fun j _ _ => r1j j (by omega) (by omega)) (r1o 65 (by omega)) rfl rfl rfl
  have ss1 : SS Q1 rf R1 L (o + 1) := by
    obtain ⟨⟨s1, s2⟩, ⟨s3, s4⟩, s6, s7, s8, s9⟩ := ss
    refine ⟨⟨?_, ?_⟩, ⟨?_, ?_⟩, by omega, ?_, ?_, s9⟩
    · rw [← hq1, setR_same, updf_ne (by omega)]; exact s1
    · rw [r1j 39 (by omega) (by omega)]; exact s2
    · rw [← hq1, setR_same, updf_same rfl]
    · rw [← hr1, setR_same, updf_ne (by omega), updf_same rfl]
    · rw [q1o 203 (by omega), q1o 204 (by omega)]; exact s7
    · rw [r1o 81 (by omega)]; exact s8
  have fc1 : FCs Q Q1 w w rf rf := by rw [← hq1]; exact FCs_201 (FCs_of fc_refl)
  have fm1 : FMs R R1 v v := by
    rw [← hr1]
    refine ⟨fun a h1 h2 => setR_ne h1, fun j hj => ?_, fun _ _ _ => rfl⟩
    rw [setR_same, updf_ne (by omega), updf_ne (by omega)]
  have pn1 := PN_fr pn fc1 fm1
  have pre1 : ∀ F : Nat → Option (Int32 × mm), gR (mk Q1 w rf) 65 8 F = F c := fun F => gR_mk hst
  refine SO_pre ?_ fc1 fm1 (r1o 81 (by omega))
  rw [pre1]
  obtain ⟨R2, v2, g1, g2, g3⟩ := goS (w := w) hS hS' hr hr' sy1 (by rw [r1j 7 (by omega) (by omega)]; exact n1)
  obtain ⟨Q3, w3, rf3, k1, k2, k3, k4, k5⟩ := nextB (S := S) (w := w) hS hS' hr hr' g2
  have fc3 : FCs Q1 Q3 w w3 rf rf3 := FCs_of (fc_of k4)
  have fm2 : FMs R1 R2 v v2 := FMs_of (fm_of g3)
  have ss3 : SS Q3 rf3 R2 L (o + 1) := SS_fm (SS_fc ss1 (fc_of k4)) (fm_of g3)
  have r81 : R2 81 = R1 81 := g3.1 81 (by omega)
  have r241 : R2 64 41 = wi + 1 := by rw [g3.2.1 41 (by omega)]; exact r141
  by_cases c21 : c = 21
  · -- not
    have nb : ¬ (Q 65 4 = 40) := fun h => by have := (k40 h).1; omega
    have x19 : (I (ii (21 ≤ c ∧ c ≤ 30) ((c : Int) - 2) 29)) = (19 : Int32) := by rw [ii_t (by omega), c21]; rfl
    rw [if_neg (fun h => h c21), k1, bd0_s, g1, bd0_s, b2_f nb, if_pos rfl, x19, if_neg (fun h => h rfl), hN]
    obtain ⟨Q5, w5, rf5, R5, v5, a1, a2, a3, a4⟩ := one (by omega) Q3 w3 rf3 R2 v2 L (o + 1) k2 k3 ss3 (PN_fr pn1 fc3 fm2) r241
    dsimp only at a4
    unfold fX13_readNot
    rcases a4 with ⟨T, o1, l1, l2, b1, b2', b3, b4, b5, b6, b7⟩ | ⟨l1, l2, b1⟩
    · have s5' := b2'.2.2.1
      have lenT : ((L ++ T).length : Int) = (L.length : Int) + (T.length : Int) := by rw [List.length_append]; omega
      have e42 : (mk R5 v5 rm).1 64 42 = I (R5 64 42) := by rw [mk_1, castI]
      obtain ⟨p1, p2⟩ := C_put (S := S) (Q := Q5) (w := w5) (b := 21) (k := (L ++ T).length) (x := 0) (y := 0) hS a3 b2'.1.1 (by omega)
      rw [l1, bd2_p, if_neg (by decide), show (0 : Int32) = I 0 from rfl, p1, bd2_p, if_neg (by decide), l2, bd2_p, if_pos (by decide), e42, show (1 : Int32) = I 1 from rfl, M_sayT (m := ((L ++ T).length : Int)) hS' hr' b2'.1.2 (by omega), bd2_p, M_dec]
      have ss6 := SS_put (a := 1) (b := R5 64 42) (c := 0) (d := 0) (x := 0) (y := 0) (t := (1, 0, 0, 0)) (s := 21) b2' (by omega) (by omega) (by omega) (Or.inl ⟨rfl, rfl⟩) (fun _ => b4) (fun h => by omega)
      have pj := pfx_not (R3 := R5) (m := ((L ++ T).length : Int)) (t := R5 64 42) (by omega) b4 b2'.2.2.2.2.1 b5
      have eL : L ++ T ++ [((1 : Int), (0 : Int), (0 : Int), (0 : Int))] = L ++ (T ++ [(1, 0, 0, 0)]) := by simp only [List.append_assoc]
      rw [eL] at ss6
      have lenN : ((T ++ [((1 : Int), (0 : Int), (0 : Int), (0 : Int))]).length : Int) = (T.length : Int) + 1 := by
        rw [List.length_append]
        simp only [List.length_cons, List.length_nil]
        omega
      have lenLN : ((L ++ (T ++ [((1 : Int), (0 : Int), (0 : Int), (0 : Int))])).length : Int) = ((L ++ T).length : Int) + 1 := by
        rw [List.length_append]
        omega
      have e81 : decR (topR (sayZ R5 (L ++ T).length 1 (R5 64 42) 0 0) (L ++ T).length) 81 = sayZ R5 (L ++ T).length 1 (R5 64 42) 0 0 81 := by rw [dec_o (by omega), top_o (by omega)]
      have e42' : decR (topR (sayZ R5 (L ++ T).length 1 (R5 64 42) 0 0) (L ++ T).length) 64 42 = ((L ++ T).length : Int) := by rw [dec_64 (by omega), top_42]
      refine ⟨_, w5, _, _, v5, FCs_put (by omega) (FCs_trans fc3 a1), FMs_dec (FMs_top (FMs_say (FMs_trans fm2 a2))), p2, Or.inl ⟨T ++ [(1, 0, 0, 0)], o1, rfl, rfl, ?_, ?_, ?_, ?_, ?_, ?_, ?_⟩⟩
      · refine SYN_m (SYN_put b1) (fun j h1 h2 => ?_) ?_
        · rw [dec_64 (by omega), top_64 (by omega), say_64 (by omega)]
        · rw [dec_o (by omega), top_o (by omega), say_o (by omega) (by omega)]
      · exact SS_j ss6 (by rw [dec_64 (by omega), top_64 (by omega)]) (by rw [dec_64 (by omega), top_64 (by omega)]) e81
      · rw [dec_41, top_64 (by omega), say_64 (by omega), b3]; omega
      · rw [e42']; omega
      · rw [e42', e81]; exact pj
      · intro j h1 h2
        rw [e81, say_old (k1 := (L.length : Int)) (by omega) j h1 h2, b6 j h1 h2, r81]
      · omega
    · rw [l1, bd2_p, if_pos rfl, l2, bd2_p, if_neg (by decide), bd2_p, M_dec]
      exact ⟨Q5, w5, rf5, decR R5, v5, FCs_trans fc3 a1, FMs_dec (FMs_trans fm2 a2), a3, Or.inr ⟨rfl, rfl, FAIL_dec b1⟩⟩
  rw [if_pos c21]
  by_cases b40 : Q 65 4 = 40
  · -- a bracket
    rw [b2_t b40, if_pos (by decide), k1, bd0_s, g1, bd0_s, if_neg (by decide), hB]
    obtain ⟨Q5, w5, rf5, R5, v5, a1, a2, a3, a4⟩ := cond (by omega) Q3 w3 rf3 R2 v2 L (o + 1) k2 k3 ss3 (PN_fr pn1 fc3 fm2) r241
    dsimp only at a4
    unfold fX13_readBracket
    rcases a4 with ⟨T, o1, l1, l2, b1, b2', b3, b4, b5, b6, b7⟩ | ⟨l1, l2, b1⟩
    · have tk5 := TK_k b1.2
      have f4 : (mk Q5 w5 rf5).1 65 4 = I (Q5 65 4) := by rw [mk_1, castI]
      have s41 : fX13_isSign S' (mk R5 v5 rm) 64 (41 : Int32) = some (b2 (Q5 65 4 = 41)) := M_isSign (s := 41) b1.2 (by unfold sgn; omega)
      have nz1 : ¬ ((1 : Int32) = 0) := by decide
      rw [l1, bd2_p, if_pos nz1, f4, l2, bd2_p, if_pos nz1, s41, bd0_s]
      by_cases h : Q5 65 4 = 41
      · have k7 : R5 64 7 ≠ 1 := by
          rcases b1.2.2.2 with ⟨z1, z2, -⟩ | ⟨z1, z2, -⟩ | ⟨z1, -⟩ | ⟨z1, z2, -⟩ | ⟨z1, z2, -⟩ <;> omega
        obtain ⟨R7, v7, j1, j2, j3⟩ := goS (w := w5) hS hS' a3 hr' b1 k7
        obtain ⟨Q8, w8', rf8, m1, m2, m3, m4, m5⟩ := nextB (S := S) (w := w5) hS hS' a3 hr' j2
        have h41' : I (Q5 65 4) = (41 : Int32) := by rw [h]; rfl
        have hb41 : ¬ (b2 (Q5 65 4 = 41) = 0) := by rw [b2_t h]; decide
        rw [if_pos h41', m1, bd0_s, if_pos hb41, j1, bd0_s, bd2_p, M_dec]
        refine ⟨Q8, w8', rf8, decR R7, v7, FCs_trans (FCs_trans fc3 a1) (FCs_of (fc_of m4)), FMs_dec (FMs_trans (FMs_trans fm2 a2) (FMs_of (fm_of j3))), m2, Or.inl ⟨T, o1, rfl, rfl, ?_, ?_, ?_, ?_, ?_, ?_, ?_⟩⟩
        · exact SYN_m m3 (fun j h1 h2 => dec_64 (by omega)) (dec_o (by omega))
        · exact SS_j (SS_fm (SS_fc b2' (fc_of m4)) (fm_of j3)) (dec_64 (by omega)) (dec_64 (by omega)) (dec_o (by omega))
        · rw [dec_41, j3.2.1 41 (by omega), b3]; omega
        · rw [dec_64 (by omega), j3.2.1 42 (by omega)]; exact b4
        · rw [dec_64 (by omega), dec_o (by omega), j3.2.1 42 (by omega), j3.1 81 (by omega)]; exact b5
        · intro j h1 h2
          rw [dec_o (by omega), j3.1 81 (by omega), b6 j h1 h2, r81]
        · omega
      · have h41' : ¬ (I (Q5 65 4) = (41 : Int32)) := by rw [I_lit, I_eq (by omega) (by omega)]; exact h
        have hb41 : ¬ ¬ (b2 (Q5 65 4 = 41) = 0) := by rw [b2_f h]; decide
        rw [if_neg h41', if_neg hb41, show (1 : Int32) = I 1 from rfl, C_fails, bd2_p, M_bad (Or.inr rfl) tk5.1, bd2_p]
        refine SO_fail (S := S) (e := 1) (FCs_trans fc3 a1) (FMs_trans fm2 a2) a3 b1 rfl ?_
        show fX13_readSaid_b166 FM S' _ 64 0 = _
        rw [M_dec]
        rfl
    · rw [l1, bd2_p, if_neg (by decide), l2, bd2_p, if_neg (by decide), bd2_p, M_dec]
      exact ⟨Q5, w5, rf5, decR R5, v5, FCs_trans fc3 a1, FMs_dec (FMs_trans fm2 a2), a3, Or.inr ⟨rfl, rfl, FAIL_dec b1⟩⟩
  · -- a plain one
    have cr : 22 ≤ c ∧ c ≤ 30 := by omega
    have nx : ¬ (I ((c : Int) - 2) = (19 : Int32)) := by rw [I_lit, I_eq (by omega) (by omega)]; omega
    have P := PLAIN (F := FM) (wi := wi) hS hS' hr hr' sy1 hst cr ss1 (by omega) pn1 r141
    rw [b2_f b40, if_neg (fun h => h rfl), ii_t (by omega)]
    have eo : o + 1 - 1 = o := by omega
    rw [eo] at P
    obtain ⟨Q5, w5, rf5, R5, v5, a1, a2, a3, a4⟩ := P
    refine ⟨Q5, w5, rf5, R5, v5, a1, a2, a3, ?_⟩
    have em : (bd0 (fX13_go S' (mk R1 v rm) 64) (mPl FM S' (I ((c : Int) - 2)))) = (bd0 (fX13_go S' (mk R1 v rm) 64) fun τ3 => if (0 : Int32) = 0 then (if ¬ (I ((c : Int) - 2)) = (19 : Int32) then (if (24 : Int32) ≤ (I ((c : Int) - 2)) then (if (25 : Int32) ≤ (I ((c : Int) - 2)) then bd2 (fX13_readCompare S' τ3 64 (I ((c : Int) - 2))) fun v4 τ5 => fX13_readSaid_b165 FM S' τ5 64 v4 else bd2 (fX13_readOf S' τ3 64 (I ((c : Int) - 2))) fun v6 τ7 => fX13_readSaid_b165 FM S' τ7 64 v6) else bd2 (fX13_saysOne S' τ3 64 ((50 : Int32) + (I ((c : Int) - 2))) (0 : Int32) (0 : Int32) (0 : Int32)) fun v8 τ9 => wI τ9 64 42 v8 fun τ10 => fX13_readSaid_b166 FM S' τ10 64 (1 : Int32)) else bd2 (FM 2 τ3 64) fun v11 τ12 => fX13_readSaid_b166 FM S' τ12 64 v11) else bd2 (FM 1 τ3 64) fun v13 τ14 => fX13_readSaid_b166 FM S' τ14 64 v13) := by
      refine congrArg (bd0 _) (funext fun τ3 => ?_)
      rw [if_pos rfl, if_pos nx]
      rfl
    rw [em] at a4
    have ec : ∀ (p : Option (Int32 × mm)) (x : Int32) (τ : mm), (x = 0 ∨ x = 1) → p = some (x, τ) → (bd2 p fun v9 τ10 => rZ v9 (some (v9, τ10))) = some (x, τ) := by
      intro p x τ hx hp
      rw [hp, bd2_p]
      rcases hx with h | h <;> rw [h] <;> rfl
    rcases a4 with ⟨T, o1, l1, b⟩ | ⟨l1, b⟩
    · exact Or.inl ⟨T, o1, ec _ _ _ (Or.inr rfl) l1, b⟩
    · exact Or.inr ⟨ec _ _ _ (Or.inl rfl) l1, b⟩
theorem S_LEVEL {S S' : Nat → Nat × Nat} {rm : Nat → Nat → Option Nat} {n : Int} (hS : SCok S) (hS' : SMok S') (hr' : RMok rm) : ∀ (u : Nat) (wi : Int), wi + u = 8 → ∀ k j : Nat, 3 * u + 1 ≤ k → 4 * u + 2 ≤ j → (0 ≤ wi) → RS S' rm n wi (fun σ => gX7_readAll S k 2 σ 201 65 67 (I wi)) (fun σ => gX13_readAnd S' j 4 σ 64) := by
  intro u
  induction u with
  | zero =>
    intro wi hw k j hk hj h0
    obtain ⟨k', rfl⟩ : ∃ x, k = x + 1 := ⟨k - 1, by omega⟩
    obtain ⟨j', rfl⟩ : ∃ x, j = x + 2 := ⟨j - 2, by omega⟩
    exact S_ONE (FC := gX7_readAll S k') (FM := gX13_readAnd S' (j' + 1)) (GM := gX13_readAnd S' j') hS hS' hr' (by omega) (fun _ => rfl) (fun _ => rfl) (fun h => by omega) (fun h => by omega)
  | succ u ih =>
    intro wi hw k j hk hj h0
    obtain ⟨k', rfl⟩ : ∃ x, k = x + 3 := ⟨k - 3, by omega⟩
    obtain ⟨j', rfl⟩ : ∃ x, j = x + 4 := ⟨j - 4, by omega⟩
    have one := ih (wi + 1) (by omega)
    have o1 := one k' j' (by omega) (by omega) (by omega)
    have a1 : RS S' rm n (wi + 1) (fun σ => gX7_readAll S (k' + 1) 0 σ 201 65 67 (I (wi + 1))) (fun σ => gX13_readAnd S' (j' + 1) 0 σ 64) := S_ALL (FC := gX7_readAll S k') (FM := gX13_readAnd S' j') hS hS' hr' o1
    have c1 : RS S' rm n (wi + 1) (fun σ => gX7_readAll S (k' + 2) 1 σ 201 65 67 (I (wi + 1))) (fun σ => gX13_readAnd S' (j' + 2) 3 σ 64) := S_OR (FC := gX7_readAll S (k' + 1)) (FM := gX13_readAnd S' (j' + 1)) hS hS' hr' a1
    exact S_ONE (FC := gX7_readAll S (k' + 2)) (FM := gX13_readAnd S' (j' + 3)) (GM := gX13_readAnd S' (j' + 2)) hS hS' hr' (by omega) (fun _ => rfl) (fun _ => rfl) (fun _ => c1) (fun _ => one (k' + 2) (j' + 2) (by omega) (by omega) (by omega))
