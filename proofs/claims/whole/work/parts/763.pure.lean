def FCr (Q Q' : Nat → Int → Int) (w w' : Nat → Nat → Int64) (rf rf' : Nat → Nat → Option Nat) : Prop := (∀ a, a ≠ 65 → a ≠ 193 → ¬ (194 ≤ a ∧ a ≤ 196) → Q' a = Q a) ∧ (∀ j, j ≠ 5 → Q' 193 j = Q 193 j) ∧ (∀ a j, ¬ (a = 65 ∧ j = 7) → w' a j = w a j) ∧ (∀ a j, ¬ (a = 65 ∧ j = 8) → rf' a j = rf a j)
def FMr (R R' : Nat → Int → Int) (v v' : Nat → Nat → Int64) : Prop := (∀ a, a ≠ 64 → a ≠ 79 → R' a = R a) ∧ (∀ j, j < 5 ∨ 13 < j → j ≠ 36 → R' 64 j = R 64 j) ∧ (∀ a j, ¬ (a = 64 ∧ j = 12) → v' a j = v a j)
theorem FCr_of {Q Q' : Nat → Int → Int} {w w' : Nat → Nat → Int64} {rf rf' : Nat → Nat → Option Nat} (h : fc65 Q Q' w w' rf rf') : FCr Q Q' w w' rf rf' := ⟨fun a h1 _ _ => h.1 a h1, fun j _ => by rw [h.1 193 (by omega)], h.2.2.1, h.2.2.2⟩
theorem FCr_trans {Q Q' Q'' : Nat → Int → Int} {w w' w'' : Nat → Nat → Int64} {rf rf' rf'' : Nat → Nat → Option Nat} (h : FCr Q Q' w w' rf rf') (h2 : FCr Q' Q'' w' w'' rf' rf'') : FCr Q Q'' w w'' rf rf'' := ⟨fun a x y z => (h2.1 a x y z).trans (h.1 a x y z), fun j hj => (h2.2.1 j hj).trans (h.2.1 j hj), fun a j x => (h2.2.2.1 a j x).trans (h.2.2.1 a j x), fun a j x => (h2.2.2.2 a j x).trans (h.2.2.2 a j x)⟩
theorem FMr_of {R R' : Nat → Int → Int} {v v' : Nat → Nat → Int64} (h : fm64 R R' v v') : FMr R R' v v' := ⟨fun a h1 _ => h.1 a h1, fun j h1 _ => h.2.1 j h1, h.2.2⟩
theorem FMr_trans {R R' R'' : Nat → Int → Int} {v v' v'' : Nat → Nat → Int64} (h : FMr R R' v v') (h2 : FMr R' R'' v' v'') : FMr R R'' v v'' := ⟨fun a x y => (h2.1 a x y).trans (h.1 a x y), fun j x y => (h2.2.1 j x y).trans (h.2.1 j x y), fun a j x => (h2.2.2 a j x).trans (h.2.2 a j x)⟩
theorem FMr_79 {R R' : Nat → Int → Int} {v v' : Nat → Nat → Int64} {X : Int → Int} (h : FMr R R' v v') : FMr R (setR R' 79 X) v v' := ⟨fun a x y => by rw [setR_ne y]; exact h.1 a x y, fun j x y => by rw [setR_ne (by omega)]; exact h.2.1 j x y, h.2.2⟩
def noteQ (Q : Nat → Int → Int) (k a who x : Int) : Nat → Int → Int := setR (setR (setR Q 194 (updf (Q 194) k a)) 195 (updf (Q 195) k who)) 196 (updf (Q 196) k x)
theorem noteQ_o {Q : Nat → Int → Int} {k a who x : Int} {b : Nat} (h : ¬ (194 ≤ b ∧ b ≤ 196)) : noteQ Q k a who x b = Q b := by
  unfold noteQ
  rw [setR_ne (by omega), setR_ne (by omega), setR_ne (by omega)]
theorem FCr_note {Q Q' : Nat → Int → Int} {w w' : Nat → Nat → Int64} {rf rf' : Nat → Nat → Option Nat} {k a who x : Int} (h : FCr Q Q' w w' rf rf') : FCr Q (noteQ Q' k a who x) w w' rf rf' := ⟨fun b x y z => by rw [noteQ_o z]; exact h.1 b x y z, fun j hj => by rw [noteQ_o (by omega)]; exact h.2.1 j hj, h.2.2⟩
theorem C_note {S : Nat → Nat × Nat} {Q : Nat → Int → Int} {w : Nat → Nat → Int64} {rf : Nat → Nat → Option Nat} {k a who x : Int} (hS : SCok S) (hr : RCok rf) (hq : Q 193 5 = k) (hk : 0 ≤ k ∧ k < 40) : fX6_note S (mk Q w rf) 193 (I a) (I who) (I x) = some (1, mk (noteQ Q k a who x) w rf) := by
  unfold noteQ
  simp (disch := first | assumption | omega) only [fX6_note, I_lit, orb_I, I_add, I_sub, I_mul, I_neg, nm_eq, bd0_s, bd2_s, un2_eq, un3_eq, un4_eq, un5_eq, un6_eq, cs2_l, cs2_r, mk_1, mk_2, wI_mk, wL_mk, wR_mk, setR_same, setR_setR, rZ_0, rZ_1, rZ_b2, it_b2, it_nb2, it_b21, it_nb21, I_lt, I_le, I_eq, I_div, castI, if_true, if_false, Classical.not_not, gC193_2, gC193_3, gC193_4, hq, stC194, stC195, stC196, setR_ne]
def RW (Q Q1 : Nat → Int → Int) (k a who x : Int) : Prop := Q1 194 = updf (Q 194) k a ∧ Q1 195 = updf (Q 195) k who ∧ Q1 196 = updf (Q 196) k x ∧ Q1 193 5 = Q 193 5
theorem RW_note {Q Q1 : Nat → Int → Int} {w w' : Nat → Nat → Int64} {rf rf' : Nat → Nat → Option Nat} {k a who x : Int} (h : fc65 Q Q1 w w' rf rf') : RW Q (noteQ Q1 k a who x) k a who x := by
  unfold RW noteQ
  refine ⟨?_, ?_, ?_, ?_⟩
  · rw [setR_ne (by omega), setR_ne (by omega), setR_same, h.1 194 (by omega)]
  · rw [setR_ne (by omega), setR_same, h.1 195 (by omega)]
  · rw [setR_same, h.1 196 (by omega)]
  · rw [setR_ne (by omega), setR_ne (by omega), setR_ne (by omega), h.1 193 (by omega)]
def RO (S' : Nat → Nat × Nat) (rm : Nat → Nat → Option Nat) (n : Int) (P : Int → Int → Prop) (k who : Int) (Q : Nat → Int → Int) (w : Nat → Nat → Int64) (rf : Nat → Nat → Option Nat) (R : Nat → Int → Int) (v : Nat → Nat → Int64) (c m : Option (Int32 × mm)) : Prop := ∃ Q1 w1 rf1 R1 v1, FCr Q Q1 w w1 rf rf1 ∧ FMr R R1 v v1 ∧ RCok rf1 ∧ ((∃ a x, P a x ∧ c = some (1, mk Q1 w1 rf1) ∧ m = some (1, mk R1 v1 rm) ∧ BEH S' rm Q1 R1 v1 n 400 ∧ RW Q Q1 k a who x ∧ R1 79 = updf (updf (R 79) (3 * k) a) (3 * k + 2) x ∧ R1 64 36 = R 64 36) ∨ (c = some (0, mk Q1 w1 rf1) ∧ m = some (0, mk R1 v1 rm) ∧ FAIL Q1 R1))
theorem RO_post {S S' : Nat → Nat × Nat} {rm : Nat → Nat → Option Nat} {n : Int} {P P' : Int → Int → Prop} {k who : Int} {Q : Nat → Int → Int} {w : Nat → Nat → Int64} {rf : Nat → Nat → Option Nat} {R : Nat → Int → Int} {v : Nat → Nat → Int64} {c m : Option (Int32 × mm)} {G G' : Int32 → mm → Option (Int32 × mm)} (h : RO S' rm n P k who Q w rf R v c m) (hp : ∀ a x, P a x → P' a x) (g0 : ∀ τ, G 0 τ = some (0, τ)) (g1 : ∀ τ, G 1 τ = some (1, τ)) (g0' : ∀ τ, G' 0 τ = some (0, τ)) (g1' : ∀ τ, G' 1 τ = some (1, τ)) : RO S' rm n P' k who Q w rf R v (bd2 c G) (bd2 m G') := by
  obtain ⟨Q1, w1, rf1, R1, v1, a1, a2, a3, a4⟩ := h
  refine ⟨Q1, w1, rf1, R1, v1, a1, a2, a3, ?_⟩
  rcases a4 with ⟨a, x, b0, b1, b2', b3⟩ | ⟨b1, b2', b3⟩
  · exact Or.inl ⟨a, x, hp a x b0, by rw [b1, bd2_p, g1], by rw [b2', bd2_p, g1'], b3⟩
  · exact Or.inr ⟨by rw [b1, bd2_p, g0], by rw [b2', bd2_p, g0'], b3⟩
theorem RCOUNT {S S' : Nat → Nat × Nat} {rm : Nat → Nat → Option Nat} {n : Int} {P P' : Int → Int → Prop} {k who : Int} {Q : Nat → Int → Int} {w : Nat → Nat → Int64} {rf : Nat → Nat → Option Nat} {R : Nat → Int → Int} {v : Nat → Nat → Int64} {a lo hi : Int} (hS : SCok S) (hS' : SMok S') (hr : RCok rf) (hr' : RMok rm) (sy : SYN Q w rf R v n 400) (h7 : R 64 7 = 2) (hq : Q 193 5 = k) (hk : 0 ≤ k ∧ k < 40) (hlo : -1000 ≤ lo ∧ lo ≤ 1000) (hhi : -1000 ≤ hi ∧ hi ≤ 1000) : RO S' rm n (fun a' x => a' = a ∧ lo ≤ x ∧ x ≤ hi) k who Q w rf R v (fX6_takeAct S (mk Q w rf) 193 (I a) (I who) (I lo) (I hi)) (fX13_readCount S' (mk R v rm) 64 (I (3 * k)) (I a) (I lo) (I hi)) := by
  generalize hr0 : setR R 79 (updf (R 79) (3 * k) a) = R0
  have r0 : ∀ b, b ≠ 79 → R0 b = R b := fun b hb => by rw [← hr0, setR_ne hb]
  have sy0 : SYN Q w rf R0 v n 400 := SYN_q sy (fun _ _ _ => rfl) rfl (fun j _ _ => by rw [r0 64 (by omega)]) (r0 65 (by omega)) rfl rfl rfl
  obtain ⟨R1, v1, g1, g2, g3⟩ := goS (w := w) hS hS' hr hr' sy0 (by rw [r0 64 (by omega)]; omega)
  have FM0 : FMr R R0 v v := by rw [← hr0]; exact FMr_79 (FMr_of fm_refl)
  have FM1 : FMr R R1 v v1 := FMr_trans FM0 (FMr_of (fm_of g3))
  obtain ⟨Q2, w2, rf2, R2, v2, k1, k2, k3, k4⟩ := NUM (S := S) (w := w) hS hS' hr hr' g2 hlo hhi
  have m0 : fX13_readCount S' (mk R v rm) 64 (I (3 * k)) (I a) (I lo) (I hi) = bd2 (fX13_readNumber S' (mk R1 v1 rm) 64 (I lo) (I hi)) fun v4 τ5 => if ¬ v4 = 0 then gR τ5 64 34 fun r6 => stI S' τ5 r6 (I (3 * k) + (2 : Int32)) (τ5.1 64 13) fun τ7 => some ((1 : Int32), τ7) else some ((0 : Int32), τ5) := by
    unfold fX13_readCount
    rw [gM34 hr', stM79 hS' (by omega), hr0, g1, bd0_s]
  rcases k4 with ⟨d1, d2, d3, d4, d5, d6, d7⟩ | ⟨d1, d2, d3⟩
  · refine ⟨noteQ Q2 k a who (R2 64 13), w2, rf2, setR R2 79 (updf (R2 79) (3 * k + 2) (R2 64 13)), v2, FCr_note (FCr_of k2), FMr_79 (FMr_trans FM1 (FMr_of k3)), k1, Or.inl ⟨a, R2 64 13, ⟨rfl, d5, d6⟩, ?_, ?_, ?_, RW_note k2, ?_, ?_⟩⟩
    · unfold fX6_takeAct
      rw [gC193_0 hr, d1, bd2_p, if_neg (by decide), gC193_0 k1, mk_1, castI, d4, C_note hS k1 (by rw [k2.1 193 (by omega)]; exact hq) hk, bd2_p]
      rfl
    · rw [m0, d2, bd2_p, if_pos (by decide), gM34 hr', mk_1, castI, show (2 : Int32) = I 2 from rfl, I_add, stM79 hS' (by omega)]
    · refine BEH_q d3 (fun j _ _ => ?_) ?_ (fun j _ _ => ?_) ?_ rfl
      · rw [noteQ_o (by omega)]
      · rw [noteQ_o (by omega)]
      · rw [setR_ne (by omega)]
      · rw [setR_ne (by omega)]
    · rw [setR_same, k3.1 79 (by omega), g3.1 79 (by omega), ← hr0, setR_same]
    · rw [setR_ne (by omega), k3.2.1 36 (by omega), g3.2.1 36 (by omega), r0 64 (by omega)]
  · refine ⟨Q2, w2, rf2, R2, v2, FCr_of k2, FMr_trans FM1 (FMr_of k3), k1, Or.inr ⟨?_, ?_, d3⟩⟩
    · unfold fX6_takeAct
      rw [gC193_0 hr, d1, bd2_p, if_pos rfl]
      rfl
    · rw [m0, d2, bd2_p, if_neg (by decide)]
theorem RFAIL {S S' : Nat → Nat × Nat} {rm : Nat → Nat → Option Nat} {n : Int} {P P' : Int → Int → Prop} {k who : Int} {Q : Nat → Int → Int} {w : Nat → Nat → Int64} {rf : Nat → Nat → Option Nat} {R : Nat → Int → Int} {v : Nat → Nat → Int64} {c m : Option (Int32 × mm)} {e : Int} (sy : SYN Q w rf R v n 400) (hr : RCok rf) (hc : c = some (0, mk (failQ Q e) w rf)) (hm : m = some (0, mk (badR R e) v rm)) : RO S' rm n P k who Q w rf R v c m := ⟨failQ Q e, w, rf, badR R e, v, FCr_of (fc_fail fc_refl), FMr_of (fm_bad fm_refl), hr, Or.inr ⟨hc, hm, FAIL_mk sy.2⟩⟩
theorem swm_p : ∀ k : Fin 31, (k.val = 12 → swm k.val = 11) ∧ (k.val = 13 → swm k.val = 12) ∧ (k.val = 14 → swm k.val = 13) ∧ (k.val = 15 → swm k.val = 14) ∧ (k.val = 16 → swm k.val = 15) ∧ (k.val = 17 → swm k.val = 16) ∧ (k.val ≠ 12 → swm k.val ≠ 11) ∧ (k.val ≠ 13 → swm k.val ≠ 12) ∧ (k.val ≠ 14 → swm k.val ≠ 13) ∧ (k.val ≠ 15 → swm k.val ≠ 14) ∧ (k.val ≠ 16 → swm k.val ≠ 15) ∧ (k.val ≠ 17 → swm k.val ≠ 16) := by decide +kernel
theorem RTURN {S S' : Nat → Nat × Nat} {rm : Nat → Nat → Option Nat} {n : Int} {P P' : Int → Int → Prop} {k who : Int} {Q : Nat → Int → Int} {w : Nat → Nat → Int64} {rf : Nat → Nat → Option Nat} {R : Nat → Int → Int} {v : Nat → Nat → Int64} {a : Int} (hS : SCok S) (hS' : SMok S') (hr : RCok rf) (hr' : RMok rm) (sy : SYN Q w rf R v n 400) (h7 : R 64 7 = 2) (hq : Q 193 5 = k) (hk : 0 ≤ k ∧ k < 40) : RO S' rm n (fun a' x => a' = a ∧ x = 0) k who Q w rf R v (fX6_note S (mk Q w rf) 193 (I a) (I who) (I 0)) (fX13_readPersonDoes_b62 S' (mk R v rm) 64 (I (3 * k)) 79 (I (3 * k)) (I a)) := by
  generalize hr0 : setR R 79 (updf (updf (R 79) (3 * k) a) (3 * k + 2) 0) = R0
  have r0 : ∀ b, b ≠ 79 → R0 b = R b := fun b hb => by rw [← hr0, setR_ne hb]
  have sy0 : SYN Q w rf R0 v n 400 := SYN_q sy (fun _ _ _ => rfl) rfl (fun j _ _ => by rw [r0 64 (by omega)]) (r0 65 (by omega)) rfl rfl rfl
  obtain ⟨R1, v1, g1, g2, g3⟩ := goS (w := w) hS hS' hr hr' sy0 (by rw [r0 64 (by omega)]; omega)
  have FM0 : FMr R R0 v v := by rw [← hr0]; exact FMr_79 (FMr_of fm_refl)
  refine ⟨noteQ Q k a who 0, w, rf, R1, v1, FCr_note (FCr_of fc_refl), FMr_trans FM0 (FMr_of (fm_of g3)), hr, Or.inl ⟨a, 0, ⟨rfl, rfl⟩, C_note hS hr hq hk, ?_, ?_, RW_note (w := w) (w' := w) (rf := rf) (rf' := rf) fc_refl, ?_, ?_⟩⟩
  · unfold fX13_readPersonDoes_b62
    rw [stM79 hS' (by omega), gM34 hr', show (2 : Int32) = I 2 from rfl, I_add, show (0 : Int32) = I 0 from rfl, stM79 hS' (by omega), setR_same, setR_setR, hr0, g1, bd0_s]
  · refine BEH_q g2 (fun j _ _ => ?_) ?_ (fun j _ _ => rfl) rfl rfl
    · rw [noteQ_o (by omega)]
    · rw [noteQ_o (by omega)]
  · rw [g3.1 79 (by omega), ← hr0, setR_same]
  · rw [g3.2.1 36 (by omega), r0 64 (by omega)]
theorem RPERS {S S' : Nat → Nat × Nat} {rm : Nat → Nat → Option Nat} {n : Int} {P P' : Int → Int → Prop} {k who : Int} {Q : Nat → Int → Int} {w : Nat → Nat → Int64} {rf : Nat → Nat → Option Nat} {R : Nat → Int → Int} {v : Nat → Nat → Int64} (hS : SCok S) (hS' : SMok S') (hr : RCok rf) (hr' : RMok rm) (sy : SYN Q w rf R v n 400) (hq : Q 193 5 = k) (hk : 0 ≤ k ∧ k < 40) : RO S' rm n (fun a x => (0 ≤ a ∧ a ≤ 2) ∧ 0 ≤ x ∧ x ≤ 20) k who Q w rf R v (fX6_readActOfPerson S (mk Q w rf) 193 (I who)) (fX13_readPersonDoes S' (mk R v rm) 64 (I (3 * k))) := by
  obtain ⟨c, hc, hst, h2⟩ := TK_stk sy.2
  have h7r := (TK_k sy.2).1
  have iw : ∀ j : Nat, j < 29 → fX13_isWord S' (mk R v rm) 64 (I j) = some (b2 (c = j + 2)) := fun j hj => by
    rw [M_isWord sy.2 hj, hst]
    exact congrArg (fun x => some (b2 x)) (propext ⟨Option.some.inj, congrArg some⟩)
  have i12 : fX13_isWord S' (mk R v rm) 64 (12 : Int32) = some (b2 (c = 14)) := iw 12 (by omega)
  have i10 : fX13_isWord S' (mk R v rm) 64 (10 : Int32) = some (b2 (c = 12)) := iw 10 (by omega)
  have i11 : fX13_isWord S' (mk R v rm) 64 (11 : Int32) = some (b2 (c = 13)) := iw 11 (by omega)
  obtain ⟨s11, s12, s13, -, -, -, n11, n12, n13, -⟩ := swm_p ⟨c, hc⟩
  dsimp only at s11 s12 s13 n11 n12 n13
  unfold fX6_readActOfPerson
  rw [gC193_0 hr, gR_mk hst, ldS_k hc]
  unfold fX13_readPersonDoes
  by_cases c12 : c = 12
  · have T := RTURN (P := fun _ _ => True) (P' := fun _ _ => True) (who := who) (a := 0) hS hS' hr hr' sy (h2.1 (by omega)) hq hk
    rw [if_pos (s11 c12)]
    rw [i12, bd0_s, if_pos (b2_f (by omega)), i10, bd0_s, if_pos (by rw [b2_t c12]; decide)]
    unfold fX13_readPersonDoes_b43
    rw [gM34 hr', i10, bd0_s, if_neg (by rw [b2_t c12]; decide)]
    obtain ⟨Q1, w1, rf1, R1, v1, a1, a2, a3, a4⟩ := T
    refine ⟨Q1, w1, rf1, R1, v1, a1, a2, a3, ?_⟩
    rcases a4 with ⟨a, x, b0, b1, b2', b3⟩ | ⟨b1, b2', b3⟩
    · refine Or.inl ⟨a, x, by omega, ?_, b2', b3⟩
      rw [show (0 : Int32) = I 0 from rfl, b1, bd2_p]
      rfl
    · refine Or.inr ⟨?_, b2', b3⟩
      rw [show (0 : Int32) = I 0 from rfl, b1, bd2_p]
      rfl
  rw [if_neg (n11 c12)]
  by_cases c13 : c = 13
  · have T := RTURN (P := fun _ _ => True) (P' := fun _ _ => True) (who := who) (a := 1) hS hS' hr hr' sy (h2.1 (by omega)) hq hk
    rw [if_pos (s12 c13)]
    rw [i12, bd0_s, if_pos (b2_f (by omega)), i10, bd0_s, if_neg (by rw [b2_f c12]; decide), i11, bd0_s, if_pos (by rw [b2_t c13]; decide)]
    unfold fX13_readPersonDoes_b43
    rw [gM34 hr', i10, bd0_s, if_pos (b2_f c12)]
    obtain ⟨Q1, w1, rf1, R1, v1, a1, a2, a3, a4⟩ := T
    refine ⟨Q1, w1, rf1, R1, v1, a1, a2, a3, ?_⟩
    rcases a4 with ⟨a, x, b0, b1, b2', b3⟩ | ⟨b1, b2', b3⟩
    · refine Or.inl ⟨a, x, by omega, ?_, b2', b3⟩
      rw [show (1 : Int32) = I 1 from rfl, show (0 : Int32) = I 0 from rfl, b1, bd2_p]
      rfl
    · refine Or.inr ⟨?_, b2', b3⟩
      rw [show (1 : Int32) = I 1 from rfl, show (0 : Int32) = I 0 from rfl, b1, bd2_p]
      rfl
  rw [if_neg (n12 c13)]
  by_cases c14 : c = 14
  · have T := RCOUNT (P := fun _ _ => True) (P' := fun _ _ => True) (who := who) (a := 2) (lo := 1) (hi := 20) hS hS' hr hr' sy (h2.1 (by omega)) hq hk (by omega) (by omega)
    rw [if_pos (s13 c14)]
    rw [i12, bd0_s, if_neg (by rw [b2_t c14]; decide)]
    exact RO_post (S := S) T (fun a x h => by omega) (fun _ => rfl) (fun _ => rfl) (fun _ => rfl) (fun _ => rfl)
  · rw [if_neg (n13 c14), gC193_0 hr, i12, bd0_s, if_pos (b2_f c14), i10, bd0_s, if_neg (by rw [b2_f c12]; decide), i11, bd0_s, if_neg (by rw [b2_f c13]; decide), show (1 : Int32) = I 1 from rfl, C_fails, bd2_p, M_bad (Or.inr rfl) h7r, bd2_p]
    exact RFAIL (S := S) (P' := fun _ _ => True) (e := 1) sy hr rfl rfl
theorem RGLAS {S S' : Nat → Nat × Nat} {rm : Nat → Nat → Option Nat} {n : Int} {P P' : Int → Int → Prop} {k who : Int} {Q : Nat → Int → Int} {w : Nat → Nat → Int64} {rf : Nat → Nat → Option Nat} {R : Nat → Int → Int} {v : Nat → Nat → Int64} (hS : SCok S) (hS' : SMok S') (hr : RCok rf) (hr' : RMok rm) (sy : SYN Q w rf R v n 400) (hq : Q 193 5 = k) (hk : 0 ≤ k ∧ k < 40) : RO S' rm n (fun a x => (3 ≤ a ∧ a ≤ 5) ∧ (0 ≤ x ∧ x ≤ 250) ∧ (a = 3 → x ≤ 2)) k who Q w rf R v (fX6_readActOfGlass S (mk Q w rf) 193 (I who)) (fX13_readGlassDoes S' (mk R v rm) 64 (I (3 * k))) := by
  obtain ⟨c, hc, hst, h2⟩ := TK_stk sy.2
  have h7r := (TK_k sy.2).1
  have iw : ∀ j : Nat, j < 29 → fX13_isWord S' (mk R v rm) 64 (I j) = some (b2 (c = j + 2)) := fun j hj => by
    rw [M_isWord sy.2 hj, hst]
    exact congrArg (fun x => some (b2 x)) (propext ⟨Option.some.inj, congrArg some⟩)
  have i13 : fX13_isWord S' (mk R v rm) 64 (13 : Int32) = some (b2 (c = 15)) := iw 13 (by omega)
  have i14 : fX13_isWord S' (mk R v rm) 64 (14 : Int32) = some (b2 (c = 16)) := iw 14 (by omega)
  have i15 : fX13_isWord S' (mk R v rm) 64 (15 : Int32) = some (b2 (c = 17)) := iw 15 (by omega)
  obtain ⟨-, -, -, s14, s15, s16, -, -, -, n14, n15, n16⟩ := swm_p ⟨c, hc⟩
  dsimp only at s14 s15 s16 n14 n15 n16
  unfold fX6_readActOfGlass
  rw [gC193_0 hr, gR_mk hst, ldS_k hc]
  unfold fX13_readGlassDoes
  by_cases c15 : c = 15
  · have T := RCOUNT (P := fun _ _ => True) (P' := fun _ _ => True) (who := who) (a := 3) (lo := 0) (hi := 2) hS hS' hr hr' sy (h2.1 (by omega)) hq hk (by omega) (by omega)
    rw [if_pos (s14 c15)]
    rw [i13, bd0_s, if_neg (by rw [b2_t c15]; decide)]
    exact RO_post (S := S) T (fun a x h => by omega) (fun _ => rfl) (fun _ => rfl) (fun _ => rfl) (fun _ => rfl)
  rw [if_neg (n14 c15), i13, bd0_s, if_pos (b2_f c15)]
  by_cases c16 : c = 16
  · have T := RCOUNT (P := fun _ _ => True) (P' := fun _ _ => True) (who := who) (a := 4) (lo := 1) (hi := 8) hS hS' hr hr' sy (h2.1 (by omega)) hq hk (by omega) (by omega)
    rw [if_pos (s15 c16)]
    rw [i14, bd0_s, if_neg (by rw [b2_t c16]; decide)]
    exact RO_post (S := S) T (fun a x h => by omega) (fun _ => rfl) (fun _ => rfl) (fun _ => rfl) (fun _ => rfl)
  rw [if_neg (n15 c16), i14, bd0_s, if_pos (b2_f c16)]
  by_cases c17 : c = 17
  · have T := RCOUNT (P := fun _ _ => True) (P' := fun _ _ => True) (who := who) (a := 5) (lo := 1) (hi := 250) hS hS' hr hr' sy (h2.1 (by omega)) hq hk (by omega) (by omega)
    rw [if_pos (s16 c17)]
    rw [i15, bd0_s, if_neg (by rw [b2_t c17]; decide)]
    exact RO_post (S := S) T (fun a x h => by omega) (fun _ => rfl) (fun _ => rfl) (fun _ => rfl) (fun _ => rfl)
  · rw [if_neg (n16 c17), gC193_0 hr, i15, bd0_s, if_pos (b2_f c17), show (1 : Int32) = I 1 from rfl, C_fails, bd2_p, M_bad (Or.inr rfl) h7r, bd2_p]
    exact RFAIL (S := S) (P' := fun _ _ => True) (e := 1) sy hr rfl rfl
