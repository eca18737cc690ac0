theorem C_looks {S : Nat → Nat × Nat} {Q : Nat → Int → Int} {w : Nat → Nat → Int64} {rf : Nat → Nat → Option Nat} {N : Int → Int} {c : Int64} (hS : SCok S) (hr : RCok rf) (wf : WFP N) (cp : CP 67 Q N) : ∃ r1 r2, (-1 ≤ r1 ∧ r1 < N 0) ∧ (-1 ≤ r2 ∧ r2 < N 1) ∧ fX4_personNamed S (mk Q w rf) 67 c = some (I r1) ∧ fX4_glassNamed S (mk Q w rf) 67 c = some (I r2) := by
  have wn0 := wf.1
  have wn1 := wf.2.1
  obtain ⟨⟨c0, c1, -⟩, -⟩ := cp
  obtain ⟨a, ha⟩ : ∃ k : Nat, N 0 = k := ⟨(N 0).toNat, by omega⟩
  obtain ⟨b, hb⟩ : ∃ k : Nat, N 1 = k := ⟨(N 1).toNat, by omega⟩
  obtain ⟨r1, f1⟩ := Fnd_ex (fun p => w 68 p = c) a
  obtain ⟨r2, f2⟩ := Fnd_ex (fun p => w 74 p = c) b
  have g1 := Fnd_r f1
  have g2 := Fnd_r f2
  have p1 := C_placeOf (S := S) (Q := Q) (rf := rf) (sh68 hS) (by omega) (by omega) f1
  have p2 := C_placeOf (S := S) (Q := Q) (rf := rf) (sh74 hS) (by omega) (by omega) f2
  refine ⟨r1, r2, by omega, by omega, ?_, ?_⟩
  · unfold fX4_personNamed
    rw [gD67_0 hr, mk_1, castI, c0, ha, p1, bd0_s]
  · unfold fX4_glassNamed
    rw [gD67_7 hr, mk_1, castI, c1, hb, p2, bd0_s]
theorem finds67 {S S' : Nat → Nat × Nat} {Q : Nat → Int → Int} {w : Nat → Nat → Int64} {rf : Nat → Nat → Option Nat} {R : Nat → Int → Int} {v : Nat → Nat → Int64} {rm : Nat → Nat → Option Nat} {n m : Int} {c x : Int64} {l : List Nat} (hS : SCok S) (hS' : SMok S') (hr : RCok rf) (hr' : RMok rm) (wf : WFP (R 66)) (cp : CP 67 Q (R 66)) (nam : namR (w 68) (w 74) (w 81) (v 71) 0 (R 66)) (hl : isNm l) (e1 : c = Int64.ofNat (n5 l)) (e2 : x = Int64.ofNat (n27 l)) : ∃ r1 r2, (-1 ≤ r1 ∧ r1 < R 66 0) ∧ (-1 ≤ r2 ∧ r2 < R 66 1) ∧ fX4_personNamed S (mk Q w rf) 67 c = some (I r1) ∧ fX4_glassNamed S (mk Q w rf) 67 c = some (I r2) ∧ fX13_findIn S' (mk R v rm) 71 0 (I (R 66 0)) x = some (I r1) ∧ fX13_findIn S' (mk R v rm) 71 8 (I (R 66 1)) x = some (I r2) := by
  have wn0 := wf.1
  have wn1 := wf.2.1
  obtain ⟨n1, n2, n3⟩ := nam
  obtain ⟨⟨c0, c1, -⟩, -⟩ := cp
  obtain ⟨r1, a1, a2, a3, a4⟩ := find_eq (S := S) (S' := S') (Q := Q) (R := R) (w := w) (v := v) (rf := rf) (rm := rm) (base := 0) (many := R 66 0) (sh68 hS) (by omega) (by omega) (shM71 hS') (by omega) (by omega) n1 hl e1 e2
  obtain ⟨r2, b1, b2', b3, b4⟩ := find_eq (S := S) (S' := S') (Q := Q) (R := R) (w := w) (v := v) (rf := rf) (rm := rm) (base := 8) (many := R 66 1) (sh74 hS) (by omega) (by omega) (shM71 hS') (by omega) (by omega) n2 hl e1 e2
  refine ⟨r1, r2, by omega, by omega, ?_, ?_, a4, b4⟩
  · unfold fX4_personNamed
    rw [gD67_0 hr, mk_1, castI, c0, a3, bd0_s]
  · unfold fX4_glassNamed
    rw [gD67_7 hr, mk_1, castI, c1, b3, bd0_s]
def okLn (N : Int → Int) (a who x : Int) : Prop := okA N a who x ∨ (a = 6 ∧ 1 ≤ x ∧ x ≤ 60)
def rlEnd (S' : Nat → Nat × Nat) (σ : mm) : Option (Int32 × mm) := bd2 (fX13_readEnd S' σ 64) fun a τ => if a = 0 then some ((0 : Int32), τ) else some ((1 : Int32), τ)
def RLo (S' : Nat → Nat × Nat) (rm : Nat → Nat → Option Nat) (n k : Int) (Q : Nat → Int → Int) (w : Nat → Nat → Int64) (rf : Nat → Nat → Option Nat) (R : Nat → Int → Int) (v : Nat → Nat → Int64) (c m : Option (Int32 × mm)) : Prop := ∃ Q1 w1 rf1 R1 v1, FCr Q Q1 w w1 rf rf1 ∧ FMr R R1 v v1 ∧ RCok rf1 ∧ ((k < 40 ∧ ∃ a who x, okLn (R 66) a who x ∧ c = some (1, mk Q1 w1 rf1) ∧ m = rlEnd S' (mk R1 v1 rm) ∧ BEH S' rm Q1 R1 v1 n 400 ∧ RW Q Q1 k a who x ∧ R1 79 (3 * k) = a ∧ (a ≠ 6 → R1 79 (3 * k + 1) = who) ∧ R1 79 (3 * k + 2) = x ∧ (∀ j, j < 3 * k → R1 79 j = R 79 j) ∧ R1 64 36 = R 64 36) ∨ (c = some (0, mk Q1 w1 rf1) ∧ m = some (0, mk R1 v1 rm) ∧ FAIL Q1 R1))
theorem RLINE {S S' : Nat → Nat × Nat} {Q : Nat → Int → Int} {w : Nat → Nat → Int64} {rf : Nat → Nat → Option Nat} {R : Nat → Int → Int} {v : Nat → Nat → Int64} {rm : Nat → Nat → Option Nat} {n : Int} (hS : SCok S) (hS' : SMok S') (hr : RCok rf) (hr' : RMok rm) {k : Int} (sy : SYN Q w rf R v n 400) (h0 : R 64 7 ≠ 0) (wf : WFP (R 66)) (cp : CP 67 Q (R 66)) (nam : namR (w 68) (w 74) (w 81) (v 71) 0 (R 66)) (hq : Q 193 5 = k) (hm : R 64 36 = k) (hk : 0 ≤ k ∧ k ≤ 40) : RLo S' rm n k Q w rf R v (fX6_readLine S (mk Q w rf) 193) (fX13_readRollLine S' (mk R v rm) 64) := by
  have wn0 := wf.1
  have wn1 := wf.2.1
  obtain ⟨c, hc, hst, h2⟩ := TK_stk sy.2
  have h7r := (TK_k sy.2).1
  have i16 : fX13_isWord S' (mk R v rm) 64 (16 : Int32) = some (b2 (c = 18)) := by
    have := M_isWord (S' := S') (rm := rm) (k := 16) sy.2 (by omega)
    rw [hst] at this
    exact this.trans (congrArg (fun x => some (b2 x)) (propext ⟨Option.some.inj, congrArg some⟩))
  have iN : fX13_isName S' (mk R v rm) 64 = some (b2 (c = 1)) := by
    have := M_isName (S' := S') (rm := rm) sy.2
    rw [hst] at this
    exact this.trans (congrArg (fun x => some (b2 x)) (propext ⟨Option.some.inj, congrArg some⟩))
  have pre : ∀ F : Nat → Option (Int32 × mm), gR (mk Q w rf) 65 8 F = F c := fun F => gR_mk hst
  have e5 : (mk Q w rf).1 193 5 = I k := by rw [mk_1, castI, hq]
  have e36 : (mk R v rm).1 64 36 = I k := by rw [mk_1, castI, hm]
  have F1 : ∀ e, FCr Q (failQ Q e) w w rf rf ∧ FMr R (badR R e) v v ∧ FAIL (failQ Q e) (badR R e) := fun e => ⟨FCr_of (fc_fail fc_refl), FMr_of (fm_bad fm_refl), FAIL_mk sy.2⟩
  have L0 : ∀ F : Int32 → Option (Int32 × mm), ldI S' (mk R v rm) 66 0 F = F (I (R 66 0)) := fun F => ldM66 (z := 0) hS' (by omega)
  have L1 : ∀ F : Int32 → Option (Int32 × mm), ldI S' (mk R v rm) 66 1 F = F (I (R 66 1)) := fun F => ldM66 (z := 1) hS' (by omega)
  have hm1 : (-1 : Int32) = I (-1) := rfl
  have lt40 : k < 40 → I k < (40 : Int32) := fun h => by rw [I_lit, I_lt (by omega) (by omega)]; exact h
  have nlt : ¬ k < 40 → ¬ (I k < (40 : Int32)) := fun h => by rw [I_lit, I_lt (by omega) (by omega)]; exact h
  have ne40 : k < 40 → ¬ (I k = (40 : Int32)) := fun h => by rw [I_lit, I_eq (by omega) (by omega)]; omega
  have eq40 : ¬ k < 40 → I k = (40 : Int32) := fun h => by rw [I_lit, I_eq (by omega) (by omega)]; omega
  have e3k : (3 : Int32) * I k = I (3 * k) := by rw [show (3 : Int32) = I 3 from rfl, I_mul]
  have e31 : I (3 * k) + (1 : Int32) = I (3 * k + 1) := by rw [show (1 : Int32) = I 1 from rfl, I_add]
  by_cases c18 : c = 18
  · obtain ⟨r1, r2, y1, y2, y3, y4⟩ := C_looks (c := w 65 7) hS hr wf cp (w := w)
    have cpre : fX6_readLine S (mk Q w rf) 193 = fX6_readLine_b97 S (mk Q w rf) 193 (I r1) (I r2) := by
      unfold fX6_readLine
      rw [gC193_1 hr, gC193_0 hr, mk_2, y3, bd0_s, gC193_1 hr, gC193_0 hr, mk_2, y4, bd0_s, gC193_0 hr, pre, if_pos c18]
      unfold fX6_readLine_b65
      rw [gC193_0 hr, pre, if_pos (by omega)]
    have mpre : fX13_readRollLine S' (mk R v rm) 64 = fX13_readRollLine_b99 S' (mk R v rm) 64 1 (I (-1)) (I (-1)) := by
      unfold fX13_readRollLine
      rw [i16, bd0_s, if_pos (by rw [b2_t c18]; decide), b2_t c18]
      rfl
    rw [cpre, mpre]
    unfold fX6_readLine_b97 fX13_readRollLine_b99
    rw [e5, e36]
    by_cases hk4 : k < 40
    · rw [if_pos (lt40 hk4), if_pos (ne40 hk4), gC193_0 hr, pre, if_neg (by omega), nm_eq, e3k, if_neg (by decide)]
      have T := RCOUNT (P := fun _ _ => True) (P' := fun _ _ => True) (who := 0) (a := 6) (lo := 1) (hi := 60) hS hS' hr hr' sy (h2.1 (by omega)) hq (by omega) (by omega) (by omega)
      obtain ⟨Q1, w1, rf1, R1, v1, a1, a2, a3, a4⟩ := T
      refine ⟨Q1, w1, rf1, R1, v1, a1, a2, a3, ?_⟩
      rcases a4 with ⟨a, x, ⟨b0, b0'⟩, b1, b2', b3, b4, b5, b6⟩ | ⟨b1, b2', b3⟩
      · refine Or.inl ⟨hk4, a, 0, x, Or.inr ⟨b0, b0'⟩, ?_, ?_, b3, b4, ?_, fun h => by omega, ?_, fun j hj => ?_, b6⟩
        · exact (congrArg (fun o => bd2 o _) b1).trans rfl
        · refine (congrArg (fun o => bd2 o _) b2').trans ?_
          rw [bd2_p, if_neg (by decide)]
          rfl
        · rw [b5, updf_ne (by omega), updf_same rfl]
        · rw [b5, updf_same rfl]
        · rw [b5, updf_ne (by omega), updf_ne (by omega)]
      · refine Or.inr ⟨?_, ?_, b3⟩
        · exact (congrArg (fun o => bd2 o _) b1).trans rfl
        · exact (congrArg (fun o => bd2 o _) b2').trans rfl
    · rw [if_neg (nlt hk4), if_neg (fun h => h (eq40 hk4)), gC193_0 hr, show (4 : Int32) = I 4 from rfl, C_fails, bd2_p, M_bad (by have := h2.1 (by omega); omega) h7r, bd2_p]
      exact ⟨failQ Q 4, w, rf, badR R 4, v, (F1 4).1, (F1 4).2.1, hr, Or.inr ⟨rfl, rfl, (F1 4).2.2⟩⟩
  by_cases c1 : c = 1
  · have h7 : R 64 7 = 2 := h2.1 (by omega)
    obtain ⟨-, l, z2, z3, z4⟩ := TK_name sy.2 (by rw [hst, c1])
    obtain ⟨p, g, y1, y2, y3, y4, y5, y6⟩ := finds67 (S := S) (S' := S') (rf := rf) (rm := rm) (n := n) (m := 400) hS hS' hr hr' wf cp nam z2 z3 z4
    have cpre : fX6_readLine S (mk Q w rf) 193 = fX6_readLine_b65 S (mk Q w rf) 193 (I p) (I g) := by
      unfold fX6_readLine
      rw [gC193_1 hr, gC193_0 hr, mk_2, y3, bd0_s, gC193_1 hr, gC193_0 hr, mk_2, y4, bd0_s, gC193_0 hr, pre, if_neg c18, gC193_0 hr, pre, if_pos c1]
    have mpre : fX13_readRollLine S' (mk R v rm) 64 = fX13_readRollLine_b78 S' (mk R v rm) 64 0 (I p) (I g) := by
      unfold fX13_readRollLine
      rw [i16, bd0_s, if_neg (by rw [b2_f c18]; decide), iN, bd0_s, if_pos (by rw [b2_t c1]; decide), b2_f c18]
      unfold fX13_readRollLine_b24
      rw [if_pos rfl, gM19 hr', gM14 hr', L0, mk_2, y5, bd0_s]
      unfold fX13_readRollLine_b50
      rw [if_pos rfl, gM19 hr', gM14 hr', L1, mk_2, y6, bd0_s]
    have ip : ∀ z : Int, -1 ≤ z → z < 100 → ((I z = -1) ↔ z = -1) := fun z h1 h2 => by rw [hm1, I_eq (by omega) (by omega)]
    by_cases none : p = -1 ∧ g = -1
    · obtain ⟨np, ng⟩ := none
      rw [cpre, mpre]
      unfold fX6_readLine_b65 fX13_readRollLine_b78
      rw [gC193_0 hr, pre, if_neg (fun h => h c1), if_neg (fun h => h ((ip p (by omega) (by omega)).2 np)), if_neg (fun h => h ((ip g (by omega) (by omega)).2 ng)), gC193_0 hr, show (3 : Int32) = I 3 from rfl, C_fails, bd2_p, if_neg (fun h => h rfl), if_neg (fun h => h ((ip p (by omega) (by omega)).2 np)), if_neg (fun h => h ((ip g (by omega) (by omega)).2 ng)), M_bad (by omega) h7r, bd2_p]
      exact ⟨failQ Q 3, w, rf, badR R 3, v, (F1 3).1, (F1 3).2.1, hr, Or.inr ⟨rfl, rfl, (F1 3).2.2⟩⟩
    have cpre2 : fX6_readLine S (mk Q w rf) 193 = fX6_readLine_b97 S (mk Q w rf) 193 (I p) (I g) := by
      rw [cpre]
      unfold fX6_readLine_b65
      rw [gC193_0 hr, pre, if_neg (fun h => h c1)]
      by_cases np : p = -1
      · rw [if_neg (fun h => h ((ip p (by omega) (by omega)).2 np)), if_pos (fun h => none ⟨np, (ip g (by omega) (by omega)).1 h⟩)]
      · rw [if_pos (fun h => np ((ip p (by omega) (by omega)).1 h))]
    have mpre2 : fX13_readRollLine S' (mk R v rm) 64 = fX13_readRollLine_b99 S' (mk R v rm) 64 0 (I p) (I g) := by
      rw [mpre]
      unfold fX13_readRollLine_b78
      rw [if_neg (fun h => h rfl)]
      by_cases np : p = -1
      · rw [if_neg (fun h => h ((ip p (by omega) (by omega)).2 np)), if_pos (fun h => none ⟨np, (ip g (by omega) (by omega)).1 h⟩)]
      · rw [if_pos (fun h => np ((ip p (by omega) (by omega)).1 h))]
    rw [cpre2, mpre2]
    unfold fX6_readLine_b97 fX13_readRollLine_b99
    rw [e5, e36]
    by_cases hk4 : k < 40
    rotate_left
    · rw [if_neg (nlt hk4), if_neg (fun h => h (eq40 hk4)), gC193_0 hr, show (4 : Int32) = I 4 from rfl, C_fails, bd2_p, M_bad (by omega) h7r, bd2_p]
      exact ⟨failQ Q 4, w, rf, badR R 4, v, (F1 4).1, (F1 4).2.1, hr, Or.inr ⟨rfl, rfl, (F1 4).2.2⟩⟩
    obtain ⟨R1, v1, g1, g2, g3⟩ := goS (w := w) hS hS' hr hr' sy (by omega)
    obtain ⟨Q2, w2, rf2, k1, k2, k3, k4, k5⟩ := nextB (S := S) (w := w) hS hS' hr hr' g2
    rw [if_pos (lt40 hk4), if_pos (ne40 hk4), gC193_0 hr, pre, if_pos c18, gC193_0 hr, k1, bd0_s, nm_eq, e3k, if_pos rfl, g1, bd0_s, gM34 hr', e31]
    have hq2 : Q2 193 5 = k := by rw [k4.1 193 (by omega)]; exact hq
    have fin : ∀ (P : Int → Int → Prop) (who : Int) (cc mm' : Option (Int32 × mm)) (G : Int32 → mm → Option (Int32 × mm)), (∀ a x, P a x → a ≠ 6 ∧ okA (R 66) a who x) → (∀ τ, G 0 τ = some (0, τ)) → (∀ τ, G 1 τ = some (1, τ)) → RO S' rm n P k who Q2 w2 rf2 (setR R1 79 (updf (R1 79) (3 * k + 1) who)) v1 cc mm' → RLo S' rm n k Q w rf R v (bd2 cc G) (bd2 mm' fun v2 τ3 => if v2 = 0 then fX13_readRollLine_b213 S' τ3 else fX13_readRollLine_b202 S' τ3 64) := by
      intro P who cc mm' G hP G0 G1 hO
      obtain ⟨Q3, w3, rf3, R3, v3, a1, a2, a3, a4⟩ := hO
      have FM : FMr R R3 v v3 := FMr_trans (FMr_79 (FMr_of (fm_of g3))) a2
      have FC : FCr Q Q3 w w3 rf rf3 := FCr_trans (FCr_of (fc_of k4)) a1
      refine ⟨Q3, w3, rf3, R3, v3, FC, FM, a3, ?_⟩
      rcases a4 with ⟨a, x, b0, b1, b2', b3, b4, b5, b6⟩ | ⟨b1, b2', b3⟩
      · obtain ⟨n6, ok⟩ := hP a x b0
        refine Or.inl ⟨hk4, a, who, x, Or.inl ok, by rw [b1, bd2_p, G1], ?_, b3, ?_, ?_, fun _ => ?_, ?_, fun j hj => ?_, ?_⟩
        · rw [b2', bd2_p, if_neg (by decide)]
          rfl
        · unfold RW at b4 ⊢
          rw [k4.1 194 (by omega), k4.1 195 (by omega), k4.1 196 (by omega), k4.1 193 (by omega)] at b4
          exact b4
        · rw [b5, updf_ne (by omega), updf_same rfl]
        · rw [b5, updf_ne (by omega), updf_ne (by omega), setR_same, updf_same rfl]
        · rw [b5, updf_same rfl]
        · rw [b5, updf_ne (by omega), updf_ne (by omega), setR_same, updf_ne (by omega), g3.1 79 (by omega)]
        · rw [b6, setR_ne (by omega), g3.2.1 36 (by omega)]
      · refine Or.inr ⟨by rw [b1, bd2_p, G0], ?_, b3⟩
        rw [b2', bd2_p, if_pos rfl]
        rfl
    have syk : ∀ who, SYN Q2 w2 rf2 (setR R1 79 (updf (R1 79) (3 * k + 1) who)) v1 n 400 := fun who => SYN_q k3 (fun _ _ _ => rfl) rfl (fun j _ _ => by rw [setR_ne (by omega)]) (by rw [setR_ne (by omega)]) rfl rfl rfl
    by_cases np : p = -1
    · have hg : g ≠ -1 := fun h => none ⟨np, h⟩
      rw [if_pos ((ip p (by omega) (by omega)).2 np), if_neg (fun h => h ((ip p (by omega) (by omega)).2 np))]
      unfold fX13_readRollLine_b175
      rw [stM79 hS' (by omega), if_neg (fun h => h ((ip p (by omega) (by omega)).2 np))]
      refine fin _ g _ _ _ ?_ (fun _ => rfl) (fun _ => rfl) (RGLAS (P := fun _ _ => True) (P' := fun _ _ => True) hS hS' k2 hr' (syk g) hq2 (by omega))
      rintro a x ⟨h1, h2, h3⟩
      exact ⟨by omega, by omega, fun h => by omega, fun h => by omega, h2, h3⟩
    · rw [if_neg (fun h => np ((ip p (by omega) (by omega)).1 h)), if_pos (fun h => np ((ip p (by omega) (by omega)).1 h))]
      unfold fX13_readRollLine_b175
      rw [stM79 hS' (by omega), if_pos (fun h => np ((ip p (by omega) (by omega)).1 h))]
      refine fin _ p _ _ _ ?_ (fun _ => rfl) (fun _ => rfl) (RPERS (P := fun _ _ => True) (P' := fun _ _ => True) hS hS' k2 hr' (syk p) hq2 (by omega))
      rintro a x ⟨h1, h2⟩
      exact ⟨by omega, by omega, fun h => by omega, fun h => by omega, by omega, fun h => by omega⟩
  · obtain ⟨r1, r2, y1, y2, y3, y4⟩ := C_looks (c := w 65 7) hS hr wf cp (w := w)
    refine ⟨failQ Q 1, w, rf, badR R 1, v, (F1 1).1, (F1 1).2.1, hr, Or.inr ⟨?_, ?_, (F1 1).2.2⟩⟩
    · unfold fX6_readLine
      rw [gC193_1 hr, gC193_0 hr, mk_2, y3, bd0_s, gC193_1 hr, gC193_0 hr, mk_2, y4, bd0_s, gC193_0 hr, pre, if_neg c18, gC193_0 hr, pre, if_neg c1, gC193_0 hr, show (1 : Int32) = I 1 from rfl, C_fails, bd2_p]
      rfl
    · unfold fX13_readRollLine
      rw [i16, bd0_s, if_neg (by rw [b2_f c18]; decide), iN, bd0_s, if_neg (by rw [b2_f c1]; decide), show (1 : Int32) = I 1 from rfl, M_bad (Or.inr rfl) h7r, bd2_p]
      rfl
def LNR (Q R : Nat → Int → Int) (N : Int → Int) (k : Int) : Prop := ∀ i, 0 ≤ i → i < k → okLn N (Q 194 i) (Q 195 i) (Q 196 i) ∧ R 79 (3 * i) = Q 194 i ∧ (Q 194 i ≠ 6 → R 79 (3 * i + 1) = Q 195 i) ∧ R 79 (3 * i + 2) = Q 196 i
