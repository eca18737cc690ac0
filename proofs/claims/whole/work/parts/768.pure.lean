theorem C_put {S : Nat → Nat × Nat} {Q : Nat → Int → Int} {w : Nat → Nat → Int64} {rf : Nat → Nat → Option Nat} {b k : Nat} {x y : Int} (hS : SCok S) (hr : RCok rf) (hq : Q 201 3 = k) (hk : k < 40) : fX7_addStep S (mk Q w rf) 201 b (I x) (I y) = some (1, mk (putQ Q k x y) w (up2 rf 202 k (some b))) ∧ RCok (up2 rf 202 k (some b)) := C_addStep hS hr hq hk
theorem put_o {Q : Nat → Int → Int} {k x y : Int} {a : Nat} (h1 : a ≠ 201) (h2 : a ≠ 203) (h3 : a ≠ 204) : putQ Q k x y a = Q a := by
  unfold putQ
  rw [setR_ne h1, setR_ne h3, setR_ne h2]
theorem FCs_put {Q Q' : Nat → Int → Int} {w w' : Nat → Nat → Int64} {rf rf' : Nat → Nat → Option Nat} {k s : Nat} {x y : Int} (hs : s < 31) (h : FCs Q Q' w w' rf rf') : FCs Q (putQ Q' k x y) w w' rf (up2 rf' 202 k (some s)) := ⟨fun a p q r s => by rw [put_o q r s]; exact h.1 a p q r s, h.2.1, fun a j p q => by rw [up2_out (by omega)]; exact h.2.2.1 a j p q, fun sw i hi => by
  by_cases e : i = k
  · rw [e, up2_same]; exact ⟨s, rfl, hs⟩
  · rw [up2_out (by omega)]; exact h.2.2.2 sw i hi⟩
theorem SYN_put {Q R : Nat → Int → Int} {w v : Nat → Nat → Int64} {rf : Nat → Nat → Option Nat} {n m : Int} {k : Nat} {x y : Int} {b : Option Nat} (h : SYN Q w rf R v n m) : SYN (putQ Q k x y) w (up2 rf 202 k b) R v n m := SYN_q h (fun j _ _ => by rw [put_o (by omega) (by omega) (by omega)]) (put_o (by omega) (by omega) (by omega)) (fun _ _ _ => rfl) rfl rfl rfl (up2_out (by omega))
theorem SYN_m {Q R R' : Nat → Int → Int} {w v : Nat → Nat → Int64} {rf : Nat → Nat → Option Nat} {n m : Int} (h : SYN Q w rf R v n m) (h1 : ∀ j, 3 ≤ j → j ≤ 10 → R' 64 j = R 64 j) (h2 : R' 65 = R 65) : SYN Q w rf R' v n m := SYN_q h (fun _ _ _ => rfl) rfl h1 h2 rfl rfl rfl
def decR (R : Nat → Int → Int) : Nat → Int → Int := setR R 64 (updf (R 64) 41 (R 64 41 - 1))
theorem M_dec {F : Nat → mm → Nat → Option (Int32 × mm)} {S' : Nat → Nat × Nat} {R : Nat → Int → Int} {v : Nat → Nat → Int64} {rm : Nat → Nat → Option Nat} {x : Int32} : fX13_readSaid_b166 F S' (mk R v rm) 64 x = rZ x (some (x, mk (decR R) v rm)) := by
  unfold fX13_readSaid_b166
  rw [mk_1, castI, show (1 : Int32) = I 1 from rfl, I_sub, wI_mk, castI]
  rfl
theorem FAIL_dec {Q R : Nat → Int → Int} (h : FAIL Q R) : FAIL Q (decR R) := by
  unfold FAIL decR
  rw [setR_same, updf_ne (by omega), updf_ne (by omega)]
  exact h
theorem FMs_dec {R R' : Nat → Int → Int} {v v' : Nat → Nat → Int64} (h : FMs R R' v v') : FMs R (decR R') v v' := FMs_64 h (by omega)
theorem FMs_top {R R' : Nat → Int → Int} {v v' : Nat → Nat → Int64} {t : Int} (h : FMs R R' v v') : FMs R (topR R' t) v v' := FMs_64 h (by omega)
theorem M_sayT {S : Nat → Nat × Nat} {R : Nat → Int → Int} {w : Nat → Nat → Int64} {rf : Nat → Nat → Option Nat} {a b c d m : Int} {α : Type} {G : mm → Option α} (hS : SMok S) (hr : RMok rf) (h39 : R 64 39 = m) (hm : 0 ≤ m ∧ m < 60) : bd2 (fX13_saysOne S (mk R w rf) 64 (I a) (I b) (I c) (I d)) (fun v5 τ6 => wI τ6 64 42 v5 G) = G (mk (topR (sayZ R m a b c d) m) w rf) := by
  rw [M_says hS hr h39 hm, bd2_p, wI_mk, castI]
  rfl
theorem top_64 {R : Nat → Int → Int} {t j : Int} (h : j ≠ 42) : topR R t 64 j = R 64 j := by
  unfold topR
  rw [setR_same, updf_ne h]
theorem top_42 {R : Nat → Int → Int} {t : Int} : topR R t 64 42 = t := by
  unfold topR
  rw [setR_same, updf_same rfl]
theorem top_o {R : Nat → Int → Int} {t : Int} {a : Nat} (h : a ≠ 64) : topR R t a = R a := by
  unfold topR
  rw [setR_ne h]
theorem dec_64 {R : Nat → Int → Int} {j : Int} (h : j ≠ 41) : decR R 64 j = R 64 j := by
  unfold decR
  rw [setR_same, updf_ne h]
theorem dec_41 {R : Nat → Int → Int} : decR R 64 41 = R 64 41 - 1 := by
  unfold decR
  rw [setR_same, updf_same rfl]
theorem dec_o {R : Nat → Int → Int} {a : Nat} (h : a ≠ 64) : decR R a = R a := by
  unfold decR
  rw [setR_ne h]
theorem pfx_leaf {R : Nat → Int → Int} {m a b c d : Int} (hm : 0 ≤ m ∧ m < 60) (na : a ≠ 1 ∧ a ≠ 2 ∧ a ≠ 3) (f : Nat) : pfx (nd81 (sayZ R m a b c d 81)) (f + 1) m = some [(a, b, c, d)] := by
  obtain ⟨e0, e1, e2, e3, -⟩ := nd_say (R := R) (a := a) (b := b) (c := c) (d := d) hm
  unfold pfx
  rw [e0, e1, e2, e3, if_neg na.1, if_neg (by omega)]
theorem LEAF {S S' : Nat → Nat × Nat} {rm : Nat → Nat → Option Nat} {n : Int} {L : List (Int × Int × Int × Int)} {o wi : Int} {Q : Nat → Int → Int} {w : Nat → Nat → Int64} {rf : Nat → Nat → Option Nat} {R : Nat → Int → Int} {v : Nat → Nat → Int64} {a b c d x y : Int} {s : Nat} (sy : SYN Q w rf R v n 200) (ss : SS Q rf R L o) (hl : (L.length : Int) + 1 ≤ 2 * o) (hs : s < 31) (tk : tokR (a, b, c, d) (some s) x y) (na : a ≠ 1 ∧ a ≠ 2 ∧ a ≠ 3) (h41 : R 64 41 = wi + 1) : SYN (putQ Q L.length x y) w (up2 rf 202 L.length (some s)) (decR (topR (sayZ R L.length a b c d) L.length)) v n 200 ∧ SS (putQ Q L.length x y) (up2 rf 202 L.length (some s)) (decR (topR (sayZ R L.length a b c d) L.length)) (L ++ [(a, b, c, d)]) o ∧ decR (topR (sayZ R L.length a b c d) L.length) 64 41 = wi ∧ decR (topR (sayZ R L.length a b c d) L.length) 64 42 = L.length ∧ pfx (nd81 (decR (topR (sayZ R L.length a b c d) L.length) 81)) (L.length + 1) L.length = some [(a, b, c, d)] ∧ (∀ j, 0 ≤ j → j < 4 * (L.length : Int) → decR (topR (sayZ R L.length a b c d) L.length) 81 j = R 81 j) := by
  have ho := ss.2.2.1
  have hm : 0 ≤ (L.length : Int) ∧ (L.length : Int) < 60 := by omega
  have e81 : decR (topR (sayZ R L.length a b c d) L.length) 81 = sayZ R L.length a b c d 81 := by rw [dec_o (by omega), top_o (by omega)]
  refine ⟨?_, ?_, ?_, ?_, ?_, ?_⟩
  · refine SYN_m (SYN_put sy) (fun j h1 h2 => ?_) ?_
    · rw [dec_64 (by omega), top_64 (by omega), say_64 (by omega)]
    · rw [dec_o (by omega), top_o (by omega), say_o (by omega) (by omega)]
  · refine SS_j (SS_put ss (by omega) hl hs tk (fun h => absurd h na.1) (fun h => by omega)) ?_ ?_ e81
    · rw [dec_64 (by omega), top_64 (by omega)]
    · rw [dec_64 (by omega), top_64 (by omega)]
  · rw [dec_41, top_64 (by omega), say_64 (by omega), h41]; omega
  · rw [dec_64 (by omega), top_42]
  · rw [e81]; exact pfx_leaf hm na _
  · intro j h1 h2
    rw [e81, say_81, updf_ne (by omega), updf_ne (by omega), updf_ne (by omega), updf_ne (by omega)]
theorem SO_leaf {S S' : Nat → Nat × Nat} {rm : Nat → Nat → Option Nat} {n : Int} {L : List (Int × Int × Int × Int)} {o wi : Int} {Q : Nat → Int → Int} {w : Nat → Nat → Int64} {rf : Nat → Nat → Option Nat} {R : Nat → Int → Int} {v : Nat → Nat → Int64} {Q2 : Nat → Int → Int} {w2 : Nat → Nat → Int64} {rf2 : Nat → Nat → Option Nat} {R2 : Nat → Int → Int} {v2 : Nat → Nat → Int64} {a b c d x y : Int} {s : Nat} {cc mc : Option (Int32 × mm)} (hS : SCok S) (hr2 : RCok rf2) (fc : FCs Q Q2 w w2 rf rf2) (fm : FMs R R2 v v2) (e81 : R2 81 = R 81) (sy : SYN Q2 w2 rf2 R2 v2 n 200) (ss : SS Q2 rf2 R2 L o) (hl : (L.length : Int) + 1 ≤ 2 * o) (hs : s < 31) (tk : tokR (a, b, c, d) (some s) x y) (na : a ≠ 1 ∧ a ≠ 2 ∧ a ≠ 3) (h41 : R2 64 41 = wi + 1) (hc : cc = (bd2 (fX7_addStep S (mk Q2 w2 rf2) 201 s (I x) (I y)) fun v1 τ2 => rZ v1 (some (v1, τ2)))) (hmc : mc = some (1, mk (decR (topR (sayZ R2 L.length a b c d) L.length)) v2 rm)) : SO S' rm n L (o - 1) wi Q w rf R v cc mc := by
  have ho := ss.2.2.1
  obtain ⟨p1, p2⟩ := C_put (S := S) (w := w2) (b := s) (x := x) (y := y) hS hr2 ss.1.1 (by omega)
  obtain ⟨l1, l2, l3, l4, l5, l6⟩ := LEAF (S := S) (S' := S') (rm := rm) (x := x) (y := y) sy ss hl hs tk na h41
  have el : (L ++ [(a, b, c, d)]).length = L.length + 1 := by rw [List.length_append]; rfl
  have et : ((L.length : Int)).toNat = L.length := by omega
  refine ⟨putQ Q2 L.length x y, w2, up2 rf2 202 L.length (some s), decR (topR (sayZ R2 L.length a b c d) L.length), v2, FCs_put hs fc, FMs_dec (FMs_top (FMs_say fm)), p2, Or.inl ⟨[(a, b, c, d)], o, ?_, hmc, l1, l2, l3, ?_, ?_, ?_, ?_⟩⟩
  · rw [hc, p1, bd2_p]
    rfl
  · rw [l4, el]; omega
  · rw [l4, et]; exact l5
  · intro j h1 h2
    rw [l6 j h1 h2, e81]
  · exact ⟨by omega, by show ((1 : Nat) : Int) + 1 ≤ _; omega⟩
theorem SO_fail {S S' : Nat → Nat × Nat} {rm : Nat → Nat → Option Nat} {n : Int} {L : List (Int × Int × Int × Int)} {o wi : Int} {Q : Nat → Int → Int} {w : Nat → Nat → Int64} {rf : Nat → Nat → Option Nat} {R : Nat → Int → Int} {v : Nat → Nat → Int64} {Q2 : Nat → Int → Int} {w2 : Nat → Nat → Int64} {rf2 : Nat → Nat → Option Nat} {R2 : Nat → Int → Int} {v2 : Nat → Nat → Int64} {e : Int} {cc mc : Option (Int32 × mm)} (fc : FCs Q Q2 w w2 rf rf2) (fm : FMs R R2 v v2) (hr2 : RCok rf2) (sy : SYN Q2 w2 rf2 R2 v2 n 200) (hc : cc = some (0, mk (failQ Q2 e) w2 rf2)) (hmc : mc = some (0, mk (decR (badR R2 e)) v2 rm)) : SO S' rm n L o wi Q w rf R v cc mc := ⟨failQ Q2 e, w2, rf2, decR (badR R2 e), v2, FCs_trans fc (FCs_of (fc_fail fc_refl)), FMs_dec (FMs_trans fm (FMs_of (fm_bad fm_refl))), hr2, Or.inr ⟨hc, hmc, FAIL_dec (FAIL_mk sy.2)⟩⟩
def mPl (F : Nat → mm → Nat → Option (Int32 × mm)) (S' : Nat → Nat × Nat) (x2 : Int32) (τ3 : mm) : Option (Int32 × mm) := if (24 : Int32) ≤ x2 then (if (25 : Int32) ≤ x2 then bd2 (fX13_readCompare S' τ3 64 x2) (fun v4 τ5 => fX13_readSaid_b165 F S' τ5 64 v4) else bd2 (fX13_readOf S' τ3 64 x2) (fun v6 τ7 => fX13_readSaid_b165 F S' τ7 64 v6)) else bd2 (fX13_saysOne S' τ3 64 ((50 : Int32) + x2) (0 : Int32) (0 : Int32) (0 : Int32)) (fun v8 τ9 => wI τ9 64 42 v8 fun τ10 => fX13_readSaid_b166 F S' τ10 64 (1 : Int32))
theorem C_meas {S : Nat → Nat × Nat} {σ : mm} {c : Nat} : fX7_isMeasure S σ c = some (b2 (27 ≤ c ∧ c ≤ 30)) := by
  unfold fX7_isMeasure fX7_isMeasure_b28 fX7_isMeasure_b33
  by_cases h27 : c = 27
  · rw [if_pos h27, b2_t (by omega)]; rfl
  rw [if_neg h27]
  by_cases h28 : c = 28
  · rw [if_pos h28, b2_t (by omega)]; rfl
  rw [if_neg h28]
  by_cases h29 : c = 29
  · rw [if_pos h29, b2_t (by omega)]; rfl
  rw [if_neg h29]
  by_cases h30 : c = 30
  · rw [if_neg (fun h => h h30), b2_t (by omega)]; rfl
  · rw [if_pos h30, b2_f (by omega)]; rfl
theorem PLAIN {S S' : Nat → Nat × Nat} {rm : Nat → Nat → Option Nat} {n : Int} {L : List (Int × Int × Int × Int)} {o wi : Int} {Q : Nat → Int → Int} {w : Nat → Nat → Int64} {rf : Nat → Nat → Option Nat} {R : Nat → Int → Int} {v : Nat → Nat → Int64} {F : Nat → mm → Nat → Option (Int32 × mm)} {c : Nat} (hS : SCok S) (hS' : SMok S') (hr : RCok rf) (hr' : RMok rm) (sy : SYN Q w rf R v n 200) (hst : rf 65 8 = some c) (hc : 22 ≤ c ∧ c ≤ 30) (ss : SS Q rf R L o) (hl : (L.length : Int) + 1 ≤ 2 * o) (pn : PN Q w R v) (h41 : R 64 41 = wi + 1) : SO S' rm n L (o - 1) wi Q w rf R v (fX7_readPlain S (mk Q w rf) 201 65 67) (bd0 (fX13_go S' (mk R v rm) 64) (mPl F S' (I ((c : Int) - 2)))) := by
  have ho := ss.2.2.1
  have h7 : R 64 7 = 2 := by
    obtain ⟨k, -, hk, h2⟩ := TK_stk sy.2
    rw [hst] at hk
    injection hk with hk
    exact h2.1 (by omega)
  have pre : ∀ F : Nat → Option (Int32 × mm), gR (mk Q w rf) 65 8 F = F c := fun F => gR_mk hst
  obtain ⟨R1, v1, g1, g2, g3⟩ := goS (w := w) hS hS' hr hr' sy (by omega)
  obtain ⟨Q2, w2, rf2, k1, k2, k3, k4, k5⟩ := nextB (S := S) (w := w) hS hS' hr hr' g2
  have fc2 : FCs Q Q2 w w2 rf rf2 := FCs_of (fc_of k4)
  have fm1 : FMs R R1 v v1 := FMs_of (fm_of g3)
  have ss2 : SS Q2 rf2 R1 L o := SS_fm (SS_fc ss (fc_of k4)) (fm_of g3)
  have r81 : R1 81 = R 81 := g3.1 81 (by omega)
  have r41 : R1 64 41 = wi + 1 := by rw [g3.2.1 41 (by omega)]; exact h41
  have kk := (TK_k k3.2).1
  rw [g1, bd0_s]
  unfold fX7_readPlain
  rw [pre, k1, bd0_s]
  have i50 : (50 : Int32) + I ((c : Int) - 2) = I ((c : Int) + 48) := by
    rw [show (50 : Int32) = I 50 from rfl, I_add]
    congr 1
    omega
  by_cases c25 : c ≤ 25
  · have l24 : ¬ ((24 : Int32) ≤ I ((c : Int) - 2)) := by rw [I_lit, I_le (by omega) (by omega)]; omega
    unfold mPl
    rw [if_neg l24, if_pos (by omega), C_meas, bd0_s, if_pos (b2_f (by omega)), i50, show (0 : Int32) = I 0 from rfl, M_sayT hS' hr' ss2.1.2 (by omega), M_dec]
    unfold fX7_readPlain_b135
    exact SO_leaf (a := (c : Int) + 48) (b := 0) (c := 0) (d := 0) (s := c) (x := 0) (y := 0) hS k2 fc2 fm1 r81 k3 ss2 hl (by omega) (Or.inr (Or.inr (Or.inr (Or.inl ⟨by show (70 : Int) ≤ (c : Int) + 48 ∧ (c : Int) + 48 ≤ 73; omega, by show some c = some (((c : Int) + 48 - 48).toNat); congr 1; omega⟩)))) (by omega) r41 rfl rfl
  have g24 : (24 : Int32) ≤ I ((c : Int) - 2) := by rw [I_lit, I_le (by omega) (by omega)]; omega
  unfold mPl
  rw [if_pos g24]
  by_cases c26 : c = 26
  · have l25 : ¬ ((25 : Int32) ≤ I ((c : Int) - 2)) := by rw [I_lit, I_le (by omega) (by omega)]; omega
    rw [if_neg l25, if_neg (fun h => h c26)]
    obtain ⟨b, hb, hb2⟩ := TK_st k3.2
    have pn2 := PN_fr pn fc2 fm1
    have wn0 := pn2.1.1
    have pre2 : ∀ F : Nat → Option (Int32 × mm), gR (mk Q2 w2 rf2) 65 8 F = F b := fun F => gR_mk hb
    have mn := M_isName (S' := S') (rm := rm) k3.2
    have L0 : ∀ F : Int32 → Option (Int32 × mm), ldI S' (mk R1 v1 rm) 66 0 F = F (I (R1 66 0)) := fun F => ldM66 (z := 0) hS' (by omega)
    unfold fX13_readOf
    rw [pre2, gM14 hr', L0]
    by_cases q : b = 1
    · rw [b2_t (by rw [hb, q])] at mn
      obtain ⟨z1, l, z2, z3, z4⟩ := TK_name k3.2 (by rw [hb, q])
      obtain ⟨p, g, y1, y2, y3, y4, y5, y6⟩ := finds67 (S := S) (S' := S') (rf := rf2) (rm := rm) (n := n) (m := 200) hS hS' k2 hr' pn2.1 pn2.2.1 pn2.2.2 z2 z3 z4
      have e13 : (mk (setR R1 64 (updf (R1 64) 13 p)) v1 rm).1 64 13 = I p := by rw [mk_1, castI, setR_same, updf_same rfl]
      have mN : fX13_readNamed S' (mk R1 v1 rm) 64 (0 : Int32) (I (R1 66 0)) = if ¬ I p = (-1 : Int32) then (bd0 (fX13_go S' (mk (setR R1 64 (updf (R1 64) 13 p)) v1 rm) 64) fun τ5 => some ((1 : Int32), τ5)) else (bd2 (fX13_bad S' (mk (setR R1 64 (updf (R1 64) 13 p)) v1 rm) 64 (3 : Int32)) fun v6 τ7 => rZ v6 (some (v6, τ7))) := by
        unfold fX13_readNamed
        rw [mn, bd0_s, if_pos (by decide), gM19 hr', mk_2, y5, bd0_s, wI_mk, castI, e13]
      rw [if_pos q, mk_2, y3, bd0_s, mN]
      have sy13 := SYN_13 (x := p) k3
      by_cases np : p = -1
      · have ip : I p = -1 := by rw [np]; rfl
        rw [if_neg (fun h => h ip), if_neg (fun h => h ip), show (3 : Int32) = I 3 from rfl, C_fails, bd2_p, M_bad (by rw [setR_same, updf_ne (by omega)]; omega) (by rw [setR_same, updf_ne (by omega)]; omega), bd2_p]
        refine SO_fail (S := S) (e := 3) fc2 (FMs_trans fm1 (FMs_of (fm_set fm_refl (by omega)))) k2 sy13 rfl ?_
        show fX13_readSaid_b166 F S' _ 64 0 = _
        rw [M_dec]
        rfl
      · have ip : ¬ (I p = -1) := by rw [show (-1 : Int32) = I (-1) from rfl, I_eq (by omega) (by omega)]; exact np
        obtain ⟨R3, v3, j1, j2, j3⟩ := goS (w := w2) hS hS' k2 hr' sy13 (by rw [setR_same, updf_ne (by omega)]; omega)
        obtain ⟨Q4, w4, rf4, m1, m2, m3, m4, m5⟩ := nextB (S := S) (w := w2) hS hS' k2 hr' j2
        have ss4 : SS Q4 rf4 R3 L o := SS_fm (SS_fm (SS_fc ss2 (fc_of m4)) (v' := v1) (v := v1) (fm_set fm_refl (by omega))) (fm_of j3)
        have fm3 : FMs R R3 v v3 := FMs_trans (FMs_trans fm1 (FMs_of (fm_set (j := 13) (x := p) fm_refl (by omega)))) (FMs_of (fm_of j3))
        have t13 : (mk R3 v3 rm).1 64 13 = I p := by rw [mk_1, castI, j3.2.1 13 (by omega), setR_same, updf_same rfl]
        rw [if_pos ip, if_pos ip, m1, bd0_s, j1, bd0_s, bd2_p, if_pos (by decide), t13, i50, show (0 : Int32) = I 0 from rfl, M_sayT hS' hr' ss4.1.2 (by omega), bd2_p]
        unfold fX7_readPlain_b135
        refine SO_leaf (a := (c : Int) + 48) (b := p) (c := 0) (d := 0) (s := c) (x := 0) (y := p) hS m2 (FCs_trans fc2 (FCs_of (fc_of m4))) fm3 (by rw [j3.1 81 (by omega), setR_ne (by omega), r81]) m3 ss4 hl (by omega) (Or.inr (Or.inr (Or.inr (Or.inr (Or.inl ⟨by show (c : Int) + 48 = 74; omega, by rw [c26], rfl, by omega, by omega⟩))))) (by omega) (by rw [j3.2.1 41 (by omega), setR_same, updf_ne (by omega)]; exact r41) rfl ?_
        show fX13_readSaid_b166 F S' _ 64 1 = _
        rw [M_dec]
        rfl
    · rw [b2_f (by rw [hb]; intro hh; injection hh; contradiction)] at mn
      unfold fX13_readNamed
      rw [if_neg q, mn, bd0_s, if_neg (by decide), show (1 : Int32) = I 1 from rfl, C_fails, bd2_p, M_bad (Or.inr rfl) kk, bd2_p]
      refine SO_fail (S := S) (e := 1) fc2 fm1 k2 k3 rfl ?_
      show fX13_readSaid_b166 F S' _ 64 0 = _
      rw [M_dec]
      rfl
  · have g25 : (25 : Int32) ≤ I ((c : Int) - 2) := by rw [I_lit, I_le (by omega) (by omega)]; omega
    have q4 : (mk Q2 w2 rf2).1 65 4 = I (Q2 65 4) := by rw [mk_1, castI]
    have t2 := (TK_k k3.2).2.1
    have s60 : fX13_isSign S' (mk R1 v1 rm) 64 (60 : Int32) = some (b2 (Q2 65 4 = 60)) := M_isSign (s := 60) k3.2 (by unfold sgn; omega)
    have s61 : fX13_isSign S' (mk R1 v1 rm) 64 (61 : Int32) = some (b2 (Q2 65 4 = 61)) := M_isSign (s := 61) k3.2 (by unfold sgn; omega)
    have s62 : fX13_isSign S' (mk R1 v1 rm) 64 (62 : Int32) = some (b2 (Q2 65 4 = 62)) := M_isSign (s := 62) k3.2 (by unfold sgn; omega)
    have i60 : (I (Q2 65 4) = (60 : Int32)) ↔ Q2 65 4 = 60 := I_eq (b := 60) (by omega) (by omega)
    have i61 : (I (Q2 65 4) = (61 : Int32)) ↔ Q2 65 4 = 61 := I_eq (b := 61) (by omega) (by omega)
    have i62 : (I (Q2 65 4) = (62 : Int32)) ↔ Q2 65 4 = 62 := I_eq (b := 62) (by omega) (by omega)
    rw [if_pos g25, if_pos c26, C_meas, bd0_s, if_neg (by rw [b2_t (by omega)]; decide), nm_eq, q4]
    by_cases sg : Q2 65 4 = 60 ∨ Q2 65 4 = 61 ∨ Q2 65 4 = 62
    · have cE : (if I (Q2 65 4) = (60 : Int32) then fX7_readPlain_b107 S (mk Q2 w2 rf2) 201 65 c (I (Q2 65 4)) else if I (Q2 65 4) = (61 : Int32) then fX7_readPlain_b107 S (mk Q2 w2 rf2) 201 65 c (I (Q2 65 4)) else if I (Q2 65 4) = (62 : Int32) then fX7_readPlain_b107 S (mk Q2 w2 rf2) 201 65 c (I (Q2 65 4)) else bd2 (fX8_fails S (mk Q2 w2 rf2) 65 (1 : Int32)) fun v5 τ6 => rZ v5 (some (v5, τ6))) = fX7_readPlain_b107 S (mk Q2 w2 rf2) 201 65 c (I (Q2 65 4)) := by
        by_cases a1 : Q2 65 4 = 60
        · rw [if_pos (i60.2 a1)]
        rw [if_neg (fun h => a1 (i60.1 h))]
        by_cases a2 : Q2 65 4 = 61
        · rw [if_pos (i61.2 a2)]
        rw [if_neg (fun h => a2 (i61.1 h)), if_pos (i62.2 (by omega))]
      have mE : fX13_readCompare S' (mk R1 v1 rm) 64 (I ((c : Int) - 2)) = fX13_readCompare_b33 S' (mk R1 v1 rm) 64 (I ((c : Int) - 2)) := by
        unfold fX13_readCompare
        rw [s60, bd0_s]
        by_cases a1 : Q2 65 4 = 60
        · rw [if_pos (by rw [b2_t a1]; decide)]
        rw [if_neg (by rw [b2_f a1]; decide), s61, bd0_s]
        by_cases a2 : Q2 65 4 = 61
        · rw [if_pos (by rw [b2_t a2]; decide)]
        rw [if_neg (by rw [b2_f a2]; decide), s62, bd0_s, if_pos (by rw [b2_t (by omega)]; decide)]
      have k9 : R1 64 7 = 4 ∧ R1 64 9 = Q2 65 4 := by
        rcases k3.2.2.2 with ⟨z1, z2, -⟩ | ⟨z1, z2, -⟩ | ⟨z1, -, z2, -⟩ | ⟨z1, z2, -⟩ | ⟨z1, z2, -⟩ <;> omega
      rw [cE, mE]
      unfold fX7_readPlain_b107 fX13_readCompare_b33
      have e9 : (mk R1 v1 rm).1 64 9 = I (Q2 65 4) := by rw [mk_1, castI, k9.2]
      obtain ⟨R3, v3, j1, j2, j3⟩ := goS (w := w2) hS hS' k2 hr' k3 (by omega)
      obtain ⟨Q4, w4, rf4, m1, m2, m3, m4, m5⟩ := nextB (S := S) (w := w2) hS hS' k2 hr' j2
      have fc4 : FCs Q Q4 w w4 rf rf4 := FCs_trans fc2 (FCs_of (fc_of m4))
      have fm3 : FMs R R3 v v3 := FMs_trans fm1 (FMs_of (fm_of j3))
      have ss4 : SS Q4 rf4 R3 L o := SS_fm (SS_fc ss2 (fc_of m4)) (fm_of j3)
      have kk3 := (TK_k m3.2).1
      have t33 := (TK_k m3.2).2.2.1
      have t24 := (TK_k m3.2).2.1
      have f4 : (mk Q4 w4 rf4).1 65 4 = I (Q4 65 4) := by rw [mk_1, castI]
      have f6 : (mk Q4 w4 rf4).1 65 6 = I (Q4 65 6) := by rw [mk_1, castI]
      have e7 : (mk R3 v3 rm).1 64 7 = I (R3 64 7) := by rw [mk_1, castI]
      have e8 : (mk R3 v3 rm).1 64 8 = I (R3 64 8) := by rw [mk_1, castI]
      rw [m1, bd0_s, f4, nm_eq, nm_eq, e9, j1, bd0_s]
      unfold fX13_readNumber
      rw [e7, e8]
      by_cases c3 : R3 64 7 = 3
      · obtain ⟨u1, u2, u3⟩ := TK_num m3.2 c3
        have sy13 := SYN_13 (x := R3 64 8) m3
        obtain ⟨R5, v5, i1, i2, i3⟩ := goS (w := w4) hS hS' m2 hr' sy13 (by rw [setR_same, updf_ne (by omega)]; omega)
        obtain ⟨Q6, w6, rf6, n1, n2, n3, n4, n5'⟩ := nextB (S := S) (w := w4) hS hS' m2 hr' i2
        have ss6 : SS Q6 rf6 R5 L o := SS_fm (SS_fm (SS_fc ss4 (fc_of n4)) (v' := v3) (v := v3) (fm_set fm_refl (by omega))) (fm_of i3)
        have fm5 : FMs R R5 v v5 := FMs_trans (FMs_trans fm3 (FMs_of (fm_set (j := 13) (x := R3 64 8) fm_refl (by omega)))) (FMs_of (fm_of i3))
        have t13 : (mk R5 v5 rm).1 64 13 = I (R3 64 8) := by rw [mk_1, castI, i3.2.1 13 (by omega), setR_same, updf_same rfl]
        rw [if_pos (by rw [t33.2 c3]; rfl), f6, n1, bd0_s, if_pos (by rw [c3]; rfl), show (999 : Int32) = I 999 from rfl, show (0 : Int32) = I 0 from rfl, M_isIn (by omega) (by omega) (by omega), bd0_s, b2_t (by omega), if_pos (by decide), wI_mk, castI, i1, bd0_s, bd2_p, if_pos (by decide), t13, i50, M_sayT hS' hr' ss6.1.2 (by omega), bd2_p, u1]
        unfold fX7_readPlain_b135
        refine SO_leaf (a := (c : Int) + 48) (b := 0) (c := R3 64 8) (d := Q2 65 4) (s := c) (x := Q2 65 4) (y := R3 64 8) hS n2 (FCs_trans fc4 (FCs_of (fc_of n4))) fm5 (by rw [i3.1 81 (by omega), setR_ne (by omega), j3.1 81 (by omega), r81]) n3 ss6 hl (by omega) (Or.inr (Or.inr (Or.inr (Or.inr (Or.inr ⟨by show (75 : Int) ≤ (c : Int) + 48 ∧ (c : Int) + 48 ≤ 78; omega, by show some c = some (((c : Int) + 48 - 48).toNat); congr 1; omega, rfl, by omega, rfl, by omega⟩))))) (by omega) (by rw [i3.2.1 41 (by omega), setR_same, updf_ne (by omega), j3.2.1 41 (by omega)]; exact r41) rfl ?_
        show fX13_readSaid_b166 F S' _ 64 1 = _
        rw [M_dec]
        rfl
      · rw [if_neg (by rw [I_lit, I_eq (by omega) (by omega)]; exact fun hh => c3 (t33.1 hh)), if_neg (by rw [I_lit, I_eq (by omega) (by omega)]; exact c3), show (1 : Int32) = I 1 from rfl, C_fails, bd2_p, M_bad (Or.inr rfl) kk3, bd2_p]
        refine SO_fail (S := S) (e := 1) fc4 fm3 m2 m3 rfl ?_
        show fX13_readSaid_b166 F S' _ 64 0 = _
        rw [M_dec]
        rfl
    · unfold fX13_readCompare
      rw [if_neg (fun h => sg (Or.inl (i60.1 h))), if_neg (fun h => sg (Or.inr (Or.inl (i61.1 h)))), if_neg (fun h => sg (Or.inr (Or.inr (i62.1 h)))), s60, bd0_s, if_neg (by rw [b2_f (by omega)]; decide), s61, bd0_s, if_neg (by rw [b2_f (by omega)]; decide), s62, bd0_s, if_neg (by rw [b2_f (by omega)]; decide), show (1 : Int32) = I 1 from rfl, C_fails, bd2_p, M_bad (Or.inr rfl) kk, bd2_p]
      refine SO_fail (S := S) (e := 1) fc2 fm1 k2 k3 rfl ?_
      show fX13_readSaid_b166 F S' _ 64 0 = _
      rw [M_dec]
      rfl
