def RDc (Q R : Nat → Int → Int) (n m : Int) : Prop := tpR (Q 66) n (R 65) ∧ Q 65 1 = n ∧ R 64 3 = n ∧ Q 65 2 = m ∧ R 64 4 = m ∧ (0 ≤ m ∧ m ≤ 940) ∧ Q 65 9 = 0 ∧ R 64 10 = 0
def MT (S' : Nat → Nat × Nat) (rm : Nat → Nat → Option Nat) (b : Int → Int) (n m a : Int) (t : Int → Int) (x : Int64) : Prop := ∃ (R0 : Nat → Int → Int) (v0 : Nat → Nat → Int64) (R1 : Nat → Int → Int) (v1 : Nat → Nat → Int64) (Q1 : Nat → Int → Int) (c1 : Int64) (s1 : Option Nat), R0 65 = b ∧ R0 64 3 = n ∧ R0 64 4 = m ∧ R0 64 5 = a ∧ fX13_go S' (mk R0 v0 rm) 64 = some (mk R1 v1 rm) ∧ (∀ j, 5 ≤ j → j ≤ 9 → t j = R1 64 j) ∧ x = v1 64 12 ∧ TK Q1 c1 s1 R1 (v1 64 12) n ∧ (R1 64 7 = 1 ∨ a ≤ R1 64 6)
def BEH (S' : Nat → Nat × Nat) (rm : Nat → Nat → Option Nat) (Q R : Nat → Int → Int) (v : Nat → Nat → Int64) (n m : Int) : Prop := RDc Q R n m ∧ (0 ≤ Q 65 3 ∧ Q 65 3 ≤ n) ∧ MT S' rm (R 65) n m (Q 65 3) (R 64) (v 64 12)
def SYN (Q : Nat → Int → Int) (w : Nat → Nat → Int64) (rf : Nat → Nat → Option Nat) (R : Nat → Int → Int) (v : Nat → Nat → Int64) (n m : Int) : Prop := RDc Q R n m ∧ TK Q (w 65 7) (rf 65 8) R (v 64 12) n
theorem TK_tr {Q Q1 R R1 R2 : Nat → Int → Int} {c c1 x : Int64} {s s1 : Option Nat} {n : Int} (hn : n ≤ 940) (h : TK Q c s R2 x n) (h1 : TK Q1 c1 s1 R1 x n) (e : ∀ j : Nat, I (R2 64 j) = I (R1 64 j)) (f : ∀ j, 5 ≤ j → j ≤ 9 → R 64 j = R1 64 j) : TK Q c s R x n := by
  have g6 := e 6
  have g7 := e 7
  have g5 := e 5
  have g8 := e 8
  have g9 := e 9
  simp only [castI] at g6 g7 g5 g8 g9
  unfold TK tkP sgn at *
  rw [f 5 (by omega) (by omega), f 6 (by omega) (by omega), f 7 (by omega) (by omega), f 8 (by omega) (by omega), f 9 (by omega) (by omega)]
  obtain ⟨a1, a2, a3⟩ := h
  obtain ⟨b1, b2', b3⟩ := h1
  rw [I_eq (by omega) (by omega)] at g6
  have k7 : R2 64 7 = R1 64 7 := by
    rw [I_eq (by omega) (by omega)] at g7
    exact g7
  rw [← g6, ← k7]
  refine ⟨a1, a2, ?_⟩
  rw [← g6, ← k7] at b3
  rcases a3 with ⟨z1, z2, z3, z4⟩ | z | ⟨z1, z2, z3, z4, z5⟩ | ⟨z1, z2, z3, z4⟩ | ⟨z1, z2, z3, z4, z5⟩
  · rw [I_eq (by omega) (by omega)] at g5
    rw [← g5]
    exact Or.inl ⟨z1, z2, z3, z4⟩
  · exact Or.inr (Or.inl z)
  · rw [I_eq (by omega) (by omega)] at g5
    rw [I_eq (by omega) (by omega)] at g9
    rw [← g5, ← g9]
    exact Or.inr (Or.inr (Or.inl ⟨z1, z2, z3, z4, z5⟩))
  · rw [I_eq (by omega) (by omega)] at g5
    rw [← g5]
    exact Or.inr (Or.inr (Or.inr (Or.inl ⟨z1, z2, z3, z4⟩)))
  · rw [I_eq (by omega) (by omega)] at g5
    rw [I_eq (by omega) (by omega)] at g8
    rw [← g5, ← g8]
    exact Or.inr (Or.inr (Or.inr (Or.inr ⟨z1, z2, z3, z4, z5⟩)))
theorem mk_inj {R R1 : Nat → Int → Int} {v v1 : Nat → Nat → Int64} {rm rm1 : Nat → Nat → Option Nat} (h : mk R v rm = mk R1 v1 rm1) : (∀ a j : Nat, I (R a j) = I (R1 a j)) ∧ v = v1 := by
  refine ⟨fun a j => ?_, ?_⟩
  · have := congrArg (fun s : mm => s.1 a j) h
    simp only [mk_1] at this
    exact this
  · exact congrArg (fun s : mm => s.2.1) h
def wpos (Q Q' : Nat → Int → Int) (rfo : Int) : Prop := (rfo = 0 ∨ rfo = 1) ∨ Q 65 3 < Q' 65 3
theorem nextB {S S' : Nat → Nat × Nat} {Q : Nat → Int → Int} {w : Nat → Nat → Int64} {rf : Nat → Nat → Option Nat} {R : Nat → Int → Int} {v : Nat → Nat → Int64} {rm : Nat → Nat → Option Nat} {n m : Int} (hS : SCok S) (hS' : SMok S') (hr : RCok rf) (hr' : RMok rm) (h : BEH S' rm Q R v n m) : ∃ Q' w' rf', fX8_next S (mk Q w rf) 65 = some (mk Q' w' rf') ∧ RCok rf' ∧ SYN Q' w' rf' R v n m ∧ fr65 Q Q' w w' rf rf' ∧ wpos Q Q' (R 64 7) := by
  obtain ⟨⟨tp, hn, hn', hm, hm', hm0, q9, r10⟩, ha, R0, v0, R1, v1, Q1, c1, s1, e1, e2, e3, e4, e5, e6, e7, e8, e9⟩ := h
  obtain ⟨Q', w', rf', R2, v2, k1, k2, k3, k4, k5, k6⟩ := lex (S := S) (S' := S') (Q := Q) (w := w) (rf := rf) (R := R0) (v := v0) (rm := rm) (n := n) (m := m) (a := Q 65 3) hS hS' hr hr' (by rw [e1]; exact tp) hn e2 hm e3 hm0 rfl e4 ha
  rw [e5] at k2
  obtain ⟨i1, i2⟩ := mk_inj (Option.some.inj k2)
  rw [← i2] at k3
  have tk := TK_tr (R := R) tp.1.2 k3 e8 (fun j => (i1 64 j).symm) e6
  refine ⟨Q', w', rf', k1, RCok_of hr (fun a j h => k4.2.2.2 a j h.2.2.2.2.2), ⟨⟨?_, ?_, hn', ?_, hm', hm0, ?_, r10⟩, ?_⟩, k4, ?_⟩
  · rw [k4.1 66 (by omega)]; exact tp
  · rw [k4.2.1 1 (by omega)]; exact hn
  · rw [k4.2.1 2 (by omega)]; exact hm
  · rw [k4.2.1 9 (by omega)]; exact q9
  · rw [e7]; exact tk
  · unfold wpos
    have t3 := tk.2.2
    have p6 := e6 6 (by omega) (by omega)
    have p7 := e6 7 (by omega) (by omega)
    unfold tkP at t3
    rcases t3 with ⟨z1, -⟩ | ⟨z1, -⟩ | ⟨z1, -, -, -, z2, z3, -⟩ | ⟨z1, -, ⟨z2, z3, -⟩, -⟩ | ⟨z1, -, -, ⟨z2, z3, -⟩, -⟩ <;> omega
theorem goS {S S' : Nat → Nat × Nat} {Q : Nat → Int → Int} {w : Nat → Nat → Int64} {rf : Nat → Nat → Option Nat} {R : Nat → Int → Int} {v : Nat → Nat → Int64} {rm : Nat → Nat → Option Nat} {n m : Int} (hS : SCok S) (hS' : SMok S') (hr : RCok rf) (hr' : RMok rm) (h : SYN Q w rf R v n m) (hk : R 64 7 ≠ 1) : ∃ R' v', fX13_go S' (mk R v rm) 64 = some (mk R' v' rm) ∧ BEH S' rm Q R' v' n m ∧ fr64 R R' v v' := by
  obtain ⟨⟨tp, hn, hn', hm, hm', hm0, q9, r10⟩, tk⟩ := h
  have hp : Q 65 3 = R 64 5 ∧ 0 ≤ R 64 5 ∧ R 64 5 ≤ n := by
    have t3 := tk.2.2
    unfold tkP at t3
    rcases t3 with ⟨z1, -, -, z2, z3, z4⟩ | ⟨z1, -⟩ | ⟨z1, -, -, -, z2, z3, z4⟩ | ⟨z1, -, ⟨z2, z3, z4⟩, -⟩ | ⟨z1, -, -, ⟨z2, z3, z4⟩, -⟩ <;> omega
  obtain ⟨Q', w', rf', R2, v2, k1, k2, k3, k4, k5, k6⟩ := lex (S := S) (S' := S') (Q := Q) (w := w) (rf := rf) (R := R) (v := v) (rm := rm) (n := n) (m := m) (a := Q 65 3) hS hS' hr hr' tp hn hn' hm hm' hm0 rfl hp.1.symm (by omega)
  refine ⟨R2, v2, k2, ⟨⟨?_, hn, ?_, hm, ?_, hm0, q9, ?_⟩, by omega, R, v, R2, v2, Q', w' 65 7, rf' 65 8, ?_, hn', hm', hp.1.symm, k2, fun j _ _ => rfl, rfl, k3, k6⟩, k5⟩
  · rw [k5.1 65 (by omega)]; exact tp
  · rw [k5.2.1 3 (by omega)]; exact hn'
  · rw [k5.2.1 4 (by omega)]; exact hm'
  · rw [k5.2.1 10 (by omega)]; exact r10
  · rw [k5.1 65 (by omega)]
theorem BEH_q {S' : Nat → Nat × Nat} {rm : Nat → Nat → Option Nat} {Q Q' R R' : Nat → Int → Int} {v v' : Nat → Nat → Int64} {n m : Int} (h : BEH S' rm Q R v n m) (h1 : ∀ j, 1 ≤ j → j ≤ 9 → Q' 65 j = Q 65 j) (h2 : Q' 66 = Q 66) (h3 : ∀ j, 3 ≤ j → j ≤ 10 → R' 64 j = R 64 j) (h4 : R' 65 = R 65) (h5 : v' 64 12 = v 64 12) : BEH S' rm Q' R' v' n m := by
  obtain ⟨⟨tp, hn, hn', hm, hm', hm0, q9, r10⟩, ha, R0, v0, R1, v1, Q1, c1, s1, e1, e2, e3, e4, e5, e6, e7, e8, e9⟩ := h
  unfold BEH RDc
  rw [h2, h4, h5, h1 1 (by omega) (by omega), h1 2 (by omega) (by omega), h1 3 (by omega) (by omega), h1 9 (by omega) (by omega), h3 3 (by omega) (by omega), h3 4 (by omega) (by omega), h3 10 (by omega) (by omega)]
  exact ⟨⟨tp, hn, hn', hm, hm', hm0, q9, r10⟩, ha, R0, v0, R1, v1, Q1, c1, s1, e1, e2, e3, e4, e5, fun j a b => by rw [h3 j (by omega) (by omega)]; exact e6 j a b, e7, e8, e9⟩
theorem SYN_q {Q Q' R R' : Nat → Int → Int} {w w' v v' : Nat → Nat → Int64} {rf rf' : Nat → Nat → Option Nat} {n m : Int} (h : SYN Q w rf R v n m) (h1 : ∀ j, 1 ≤ j → j ≤ 9 → Q' 65 j = Q 65 j) (h2 : Q' 66 = Q 66) (h3 : ∀ j, 3 ≤ j → j ≤ 10 → R' 64 j = R 64 j) (h4 : R' 65 = R 65) (h5 : v' 64 12 = v 64 12) (h6 : w' 65 7 = w 65 7) (h7 : rf' 65 8 = rf 65 8) : SYN Q' w' rf' R' v' n m := by
  unfold SYN RDc TK tkP at *
  rw [h2, h4, h5, h6, h7, h1 1 (by omega) (by omega), h1 2 (by omega) (by omega), h1 3 (by omega) (by omega), h1 4 (by omega) (by omega), h1 5 (by omega) (by omega), h1 6 (by omega) (by omega), h1 9 (by omega) (by omega), h3 3 (by omega) (by omega), h3 4 (by omega) (by omega), h3 5 (by omega) (by omega), h3 6 (by omega) (by omega), h3 7 (by omega) (by omega), h3 8 (by omega) (by omega), h3 9 (by omega) (by omega), h3 10 (by omega) (by omega)]
  exact h
theorem M_isWord {S' : Nat → Nat × Nat} {Q R : Nat → Int → Int} {c : Int64} {st : Option Nat} {v : Nat → Nat → Int64} {rm : Nat → Nat → Option Nat} {n : Int} {k : Nat} (h : TK Q c st R (v 64 12) n) (hk : k < 29) : fX13_isWord S' (mk R v rm) 64 (I k) = some (b2 (st = some (k + 2))) := by
  have h67 := h.2.1
  have e7 : (mk R v rm).1 64 7 = I (R 64 7) := by rw [mk_1, castI]
  unfold fX13_isWord
  rw [e7, M_wordOf (by omega), bd0_s, mk_2]
  rcases h.2.2 with ⟨z1, z2, z3, -⟩ | ⟨z1, z2, z3⟩ | ⟨z1, -, z2, z3, -⟩ | ⟨z1, z2, -, l, z3, z4, z5, z6⟩ | ⟨z1, z2, z3, -⟩
  · rw [z1, if_pos (by decide), z3, b2_f (by intro hh; injection hh; omega)]; rfl
  · rw [z1, if_pos (by decide), z3, b2_f (by intro hh; injection hh; omega)]; rfl
  · rw [z1, if_pos (by decide), z3, b2_f (by intro hh; injection hh; omega)]; rfl
  · rw [z1, if_neg (by decide), z5, z6]
    have ek : ((k : Int)).toNat = k := by omega
    rw [ek]
    by_cases q : l = wl k
    · rw [if_neg (fun hn => hn (lg_0.2 ((nm_eq2 z3 (wl_nm ⟨k, hk⟩)).2.2 q))), b2_t (by rw [(wid_iff hk).2 q])]; rfl
    · rw [if_pos (fun hz => q ((nm_eq2 z3 (wl_nm ⟨k, hk⟩)).2.1 (lg_0.1 hz))), b2_f (by intro hh; injection hh with hh; exact q ((wid_iff hk).1 hh))]; rfl
  · rw [z1, if_pos (by decide), z3, b2_f (by intro hh; injection hh; omega)]; rfl
theorem M_isName {S' : Nat → Nat × Nat} {Q R : Nat → Int → Int} {c : Int64} {st : Option Nat} {v : Nat → Nat → Int64} {rm : Nat → Nat → Option Nat} {n : Int} (h : TK Q c st R (v 64 12) n) : fX13_isName S' (mk R v rm) 64 = some (b2 (st = some 1)) := by
  have e7 : (mk R v rm).1 64 7 = I (R 64 7) := by rw [mk_1, castI]
  unfold fX13_isName
  rw [e7]
  rcases h.2.2 with ⟨z1, z2, z3, -⟩ | ⟨z1, z2, z3⟩ | ⟨z1, -, z2, z3, -⟩ | ⟨z1, z2, -, l, z3, z4, z5, z6⟩ | ⟨z1, z2, z3, -⟩
  · rw [z1, if_neg (by decide), z3, b2_f (by intro hh; injection hh; omega)]
  · rw [z1, if_neg (by decide), z3, b2_f (by intro hh; injection hh; omega)]
  · rw [z1, if_neg (by decide), z3, b2_f (by intro hh; injection hh; omega)]
  · rw [z1, if_pos (by decide), z6]
    have wk : ∀ k, k < 29 → (Int64.ofNat (n27 l) = Int64.ofNat (n27 (wl k)) ↔ l = wl k) := fun k hk => (nm_eq2 z3 (wl_nm ⟨k, hk⟩)).2
    obtain ⟨r, h1, h2⟩ := loop_inv (f := fX13_isName_L12 S' (mk R v rm) 64) (m := 1000) (s := I 0) (fun k s => s = I k ∧ ∀ j : Nat, j < k → l ≠ wl j) (fun r => (cs2 (fun (_ : Unit) => some (0 : Int32)) (fun (_ : Unit) => some (1 : Int32))) r = some (b2 (some (wid l) = some 1))) 29 (by omega) ⟨rfl, fun j hj => by omega⟩ (by
      intro k s hk ⟨hs, hj⟩
      subst hs
      have h5 : ¬ (28 < (k : Int)) := by omega
      have ek : ((k : Int)).toNat = k := by omega
      by_cases q : l = wl k
      · right
        refine ⟨.inl (), ?_, ?_⟩
        · unfold fX13_isName_L12
          show (if (28 : Int32) < I k then _ else _) = _
          rw [I_lit, if_neg (by rw [I_lt (by omega) (by omega)]; exact h5), M_wordOf (by omega), bd0_s, mk_2, z5, ek, if_neg (fun hn => hn (lg_0.2 ((wk k hk).2 q)))]
        · rw [cs2_l, b2_f]
          intro hh
          injection hh with hh
          rw [(wid_iff hk).2 q] at hh
          omega
      · left
        refine ⟨I ((k + 1 : Nat) : Int), ?_, rfl, ?_⟩
        · unfold fX13_isName_L12
          show (if (28 : Int32) < I k then _ else _) = _
          rw [I_lit, if_neg (by rw [I_lt (by omega) (by omega)]; exact h5), M_wordOf (by omega), bd0_s, mk_2, z5, ek, if_pos (fun hz => q ((wk k hk).1 (lg_0.1 hz))), nm_eq, I_lit, I_add]
          rfl
        · intro j hj2
          by_cases e : j = k
          · rw [e]; exact q
          · exact hj j (by omega)) (by
      intro s ⟨hs, hj⟩
      subst hs
      refine ⟨.inr (), ?_, ?_⟩
      · unfold fX13_isName_L12
        show (if (28 : Int32) < I (29 : Nat) then _ else _) = _
        rw [if_pos (by decide)]
      · rw [cs2_r, b2_t]
        rw [wid_n]
        intro ⟨k, hk, he⟩
        exact hj k hk he.symm)
    have e0 : ((0 : Int32)) = I 0 := rfl
    rw [e0, h1]
    exact h2
  · rw [z1, if_neg (by decide), z3, b2_f (by intro hh; injection hh; omega)]
theorem M_isSign {S' : Nat → Nat × Nat} {Q R : Nat → Int → Int} {c : Int64} {st : Option Nat} {v : Nat → Nat → Int64} {rm : Nat → Nat → Option Nat} {x : Int64} {n s : Int} (h : TK Q c st R x n) (hs : sgn s) : fX13_isSign S' (mk R v rm) 64 (I s) = some (b2 (Q 65 4 = s)) := by
  have e7 : (mk R v rm).1 64 7 = I (R 64 7) := by rw [mk_1, castI]
  have e9 : (mk R v rm).1 64 9 = I (R 64 9) := by rw [mk_1, castI]
  unfold fX13_isSign
  rw [e7, e9]
  unfold sgn at *
  rcases h.2.2 with ⟨z1, z2, z3, -⟩ | ⟨z1, z2, z3⟩ | ⟨z1, z4, z2, z3, -⟩ | ⟨z1, z2, -⟩ | ⟨z1, z2, z3, -⟩
  · rw [z1, if_pos (by decide), b2_f (by omega)]; rfl
  · rw [z1, if_pos (by decide), b2_f (by omega)]; rfl
  · unfold sgn at z4
    rw [z1, if_neg (by decide)]
    by_cases q : R 64 9 = s
    · rw [if_neg (fun hn => hn (by rw [q])), b2_t (by omega)]; rfl
    · rw [if_pos (fun hh => q ((I_eq (by omega) (by omega)).1 hh)), b2_f (by omega)]; rfl
  · rw [z1, if_pos (by decide), b2_f (by omega)]; rfl
  · rw [z1, if_pos (by decide), b2_f (by omega)]; rfl
def failQ (Q : Nat → Int → Int) (k : Int) : Nat → Int → Int := setR Q 65 (updf (updf (Q 65) 9 k) 10 (Q 65 5))
def badR (R : Nat → Int → Int) (k : Int) : Nat → Int → Int := setR R 64 (updf (updf (R 64) 10 k) 11 (R 64 6))
theorem C_fails {S : Nat → Nat × Nat} {Q : Nat → Int → Int} {w : Nat → Nat → Int64} {rf : Nat → Nat → Option Nat} {k : Int} : fX8_fails S (mk Q w rf) 65 (I k) = some (0, mk (failQ Q k) w rf) := by
  unfold failQ
  simp (disch := first | assumption | omega) only [fX8_fails, I_lit, orb_I, I_add, I_sub, I_mul, I_neg, nm_eq, bd0_s, bd2_s, un2_eq, un3_eq, un4_eq, un5_eq, un6_eq, cs2_l, cs2_r, mk_1, mk_2, wI_mk, wL_mk, wR_mk, setR_same, setR_setR, rZ_0, rZ_1, rZ_b2, it_b2, it_nb2, it_b21, it_nb21, I_lt, I_le, I_eq, I_div, castI, if_true, if_false, Classical.not_not, updf_ne]
theorem M_bad {S' : Nat → Nat × Nat} {R : Nat → Int → Int} {v : Nat → Nat → Int64} {rm : Nat → Nat → Option Nat} {k : Int} (h7 : R 64 7 ≠ 1 ∨ k = 1) (h7' : 0 ≤ R 64 7 ∧ R 64 7 ≤ 4) : fX13_bad S' (mk R v rm) 64 (I k) = some (0, mk (badR R k) v rm) := by
  have e7 : (mk R v rm).1 64 7 = I (R 64 7) := by rw [mk_1, castI]
  have e : fX13_bad_b14 S' (mk R v rm) 64 64 (I k) = some (0, mk (badR R k) v rm) := by
    unfold badR
    simp (disch := first | assumption | omega) only [fX13_bad_b14, I_lit, orb_I, I_add, I_sub, I_mul, I_neg, nm_eq, bd0_s, bd2_s, un2_eq, un3_eq, un4_eq, un5_eq, un6_eq, cs2_l, cs2_r, mk_1, mk_2, wI_mk, wL_mk, wR_mk, setR_same, setR_setR, rZ_0, rZ_1, rZ_b2, it_b2, it_nb2, it_b21, it_nb21, I_lt, I_le, I_eq, I_div, castI, if_true, if_false, Classical.not_not, updf_ne]
  unfold fX13_bad
  rw [e7]
  by_cases h : R 64 7 = 1
  · have hk : k = 1 := by omega
    rw [hk] at e ⊢
    rw [if_neg (by rw [h]; decide)]
    exact e
  · rw [if_pos (by rw [I_lit, I_eq (by omega) (by omega)]; exact h), e]
def FAIL (Q R : Nat → Int → Int) : Prop := Q 65 9 = R 64 10 ∧ Q 65 10 = R 64 11 ∧ 0 ≤ R 64 11 ∧ R 64 11 ≤ 940
theorem FAIL_mk {Q R : Nat → Int → Int} {c x : Int64} {st : Option Nat} {n k : Int} (h : TK Q c st R x n) : FAIL (failQ Q k) (badR R k) := by
  unfold FAIL failQ badR
  rw [setR_same, setR_same, updf_ne (by omega), updf_same rfl, updf_ne (by omega), updf_same rfl, updf_same rfl, updf_same rfl]
  exact ⟨rfl, h.1, h.2.1⟩
theorem TK_k {Q R : Nat → Int → Int} {c x : Int64} {st : Option Nat} {n : Int} (h : TK Q c st R x n) : (0 ≤ R 64 7 ∧ R 64 7 ≤ 4) ∧ (0 ≤ Q 65 4 ∧ Q 65 4 ≤ 62) ∧ (Q 65 4 = 3 ↔ R 64 7 = 3) ∧ (Q 65 4 = 0 ↔ R 64 7 = 0) ∧ (Q 65 4 = 1 ↔ R 64 7 = 1) ∧ (Q 65 4 = 2 ↔ R 64 7 = 2) := by
  unfold TK sgn at h
  rcases h.2.2 with ⟨z1, z2, z3, -⟩ | ⟨z1, z2, z3⟩ | ⟨z1, z4, z2, z3, -⟩ | ⟨z1, z2, -⟩ | ⟨z1, z2, z3, -⟩ <;> omega
