def wl : Nat → List Nat := fun k => match k with
  | 0 => [16, 5, 18, 19, 15, 14]
  | 1 => [23, 1, 18, 13, 19]
  | 2 => [3, 15, 15, 12, 19]
  | 3 => [7, 12, 1, 19, 19]
  | 4 => [4, 1, 13, 16]
  | 5 => [7, 15, 15, 4]
  | 6 => [7, 18, 1, 3, 5]
  | 7 => [23, 9, 19, 8]
  | 8 => [5, 1, 18, 12, 25]
  | 9 => [12, 5, 22, 5, 12]
  | 10 => [20, 21, 18, 14, 19]
  | 11 => [23, 1, 11, 5, 19]
  | 12 => [23, 15, 15, 19]
  | 13 => [20, 9, 12, 20, 19]
  | 14 => [23, 9, 4, 5, 14, 19]
  | 15 => [19, 16, 9, 12, 12, 19]
  | 16 => [8, 15, 21, 18]
  | 17 => [15, 18]
  | 18 => [1, 14, 4]
  | 19 => [14, 15, 20]
  | 20 => [12, 1, 16, 19, 5, 4]
  | 21 => [18, 21, 14]
  | 22 => [1, 19, 12, 1, 14, 20]
  | 23 => [2, 15, 20, 8]
  | 24 => [15, 6]
  | 25 => [12, 5, 6, 20]
  | 26 => [14, 5, 3, 11]
  | 27 => [20, 21, 18, 14, 5, 4]
  | 28 => [14, 21, 13, 2, 5, 18]
  | _ => []
theorem wl_nm : ∀ k : Fin 29, isNm (wl k.val) := by
  unfold isNm
  decide
theorem wl_code : ∀ k : Fin 29, wcode (k.val + 2) = Int64.ofNat (n5 (wl k.val)) := by decide +kernel
theorem wl_inj : ∀ k j : Fin 29, wl k.val = wl j.val → k = j := by decide +kernel
theorem M_wordOf {S : Nat → Nat × Nat} {σ : mm} {k : Int} (hk : 0 ≤ k ∧ k ≤ 28) : fX13_wordOf S σ (I k) = some (Int64.ofNat (n27 (wl k.toNat))) := by
  have hc : k = 0 ∨ k = 1 ∨ k = 2 ∨ k = 3 ∨ k = 4 ∨ k = 5 ∨ k = 6 ∨ k = 7 ∨ k = 8 ∨ k = 9 ∨ k = 10 ∨ k = 11 ∨ k = 12 ∨ k = 13 ∨ k = 14 ∨ k = 15 ∨ k = 16 ∨ k = 17 ∨ k = 18 ∨ k = 19 ∨ k = 20 ∨ k = 21 ∨ k = 22 ∨ k = 23 ∨ k = 24 ∨ k = 25 ∨ k = 26 ∨ k = 27 ∨ k = 28 := by omega
  rcases hc with h | h | h | h | h | h | h | h | h | h | h | h | h | h | h | h | h | h | h | h | h | h | h | h | h | h | h | h | h <;> subst h <;> rfl
noncomputable def wid (l : List Nat) : Nat := @ite _ (∃ k, k < 29 ∧ wl k = l) (Classical.propDecidable _) (@dite _ (∃ k, k < 29 ∧ wl k = l) (Classical.propDecidable _) (fun h => Classical.choose h + 2) (fun _ => 1)) 1
theorem wid_k {k : Nat} (hk : k < 29) : wid (wl k) = k + 2 := by
  have hx : ∃ j, j < 29 ∧ wl j = wl k := ⟨k, hk, rfl⟩
  unfold wid
  rw [if_pos hx, dif_pos hx]
  obtain ⟨h1, h2⟩ := Classical.choose_spec hx
  have e : Classical.choose hx = k := congrArg Fin.val (wl_inj ⟨Classical.choose hx, h1⟩ ⟨k, hk⟩ h2)
  rw [e]
theorem wid_n {l : List Nat} (h : ¬ ∃ k, k < 29 ∧ wl k = l) : wid l = 1 := by
  unfold wid
  rw [if_neg h]
theorem wid_r {l : List Nat} : 1 ≤ wid l ∧ wid l < 31 := by
  by_cases h : ∃ k, k < 29 ∧ wl k = l
  · obtain ⟨k, h1, h2⟩ := h
    rw [← h2, wid_k h1]; omega
  · rw [wid_n h]; omega
theorem wid_iff {l : List Nat} {k : Nat} (hk : k < 29) : wid l = k + 2 ↔ l = wl k := by
  constructor
  · intro h
    by_cases hx : ∃ j, j < 29 ∧ wl j = l
    · obtain ⟨j, h1, h2⟩ := hx
      rw [← h2, wid_k h1] at h
      have : j = k := by omega
      rw [← h2, this]
    · rw [wid_n hx] at h; omega
  · intro h
    rw [h, wid_k hk]
theorem lg_0 {x y : Int64} : (lg_cmp x y = 0) ↔ x = y := by
  unfold lg_cmp
  by_cases h : x > y
  · rw [if_pos h]
    constructor
    · intro h2; exact absurd h2 (by decide)
    · intro h2; rw [h2] at h; exact absurd h Int64.lt_irrefl
  · rw [if_neg h]
    by_cases h2 : x = y
    · rw [if_pos h2]; exact ⟨fun _ => h2, fun _ => rfl⟩
    · rw [if_neg h2]
      constructor
      · intro h3; exact absurd h3 (by decide)
      · intro h3; exact absurd h3 h2
theorem ldW_I {α : Type} {i : Int} {F : Nat → Option α} (hi : 0 ≤ i ∧ i < 31) : ldW (I i) F = F i.toNat := by
  unfold ldW
  rw [if_pos (inb_I hi.1 (by omega) (by omega)), I_tc (by omega) (by omega)]
theorem C_of {S : Nat → Nat × Nat} {σ : mm} {l : List Nat} (h : isNm l) : fX11_of S σ (Int64.ofNat (n5 l)) = some (wid l) := by
  have hpos : n5 l ≠ 0 := by
    intro h0
    have e := n5_inj l [] h.1 (fun d hd => absurd hd (by simp)) h0
    have := h.2.1
    rw [e] at this
    exact absurd this (by decide)
  have hb := n_le h
  have w0 : ¬ (wcode 0 = Int64.ofNat (n5 l)) := by
    have e : wcode 0 = Int64.ofNat 0 := rfl
    rw [e, i64_inj (by omega) (by omega)]
    omega
  have w1 : ¬ (wcode 1 = Int64.ofNat (n5 l)) := by
    have e : wcode 1 = Int64.ofNat 0 := rfl
    rw [e, i64_inj (by omega) (by omega)]
    omega
  have wk : ∀ k, k < 29 → (wcode (k + 2) = Int64.ofNat (n5 l) ↔ wl k = l) := by
    intro k hk
    rw [wl_code ⟨k, hk⟩]
    exact (nm_eq2 (wl_nm ⟨k, hk⟩) h).1
  obtain ⟨r, h1, h2⟩ := loop_inv (f := fX11_of_L2 S σ (Int64.ofNat (n5 l))) (m := 1000) (s := I 0) (fun k s => s = I k ∧ ∀ j : Nat, j < k → ¬ (wcode j = Int64.ofNat (n5 l))) (fun r => (cs2 (fun v2 => ldW v2 fun r3 => some r3) (fun (_ : Unit) => some 1)) r = some (wid l)) 31 (by omega) ⟨rfl, fun j hj => by omega⟩ (by
      intro k s hk ⟨hs, hj⟩
      subst hs
      have h5 : ¬ (31 ≤ (k : Int)) := by omega
      have ek : ((k : Int)).toNat = k := by omega
      by_cases q : wcode k = Int64.ofNat (n5 l)
      · right
        refine ⟨.inl (I k), ?_, ?_⟩
        · simp (disch := first | assumption | omega) only [fX11_of_L2, I_lit, I_le, h5, if_false, ldW_I, ek]
          rw [if_neg (fun hn => hn (lg_0.2 q))]
        · rw [cs2_l, ldW_I (by omega), ek]
          have hk2 : 2 ≤ k := by
            by_cases k0 : k = 0
            · rw [k0] at q; exact absurd q w0
            · by_cases k1 : k = 1
              · rw [k1] at q; exact absurd q w1
              · omega
          have e : k - 2 + 2 = k := by omega
          have q2 := (wk (k - 2) (by omega)).1 (by rw [e]; exact q)
          rw [← q2, wid_k (by omega), e]
      · left
        refine ⟨I ((k + 1 : Nat) : Int), ?_, rfl, ?_⟩
        · simp (disch := first | assumption | omega) only [fX11_of_L2, I_lit, I_le, h5, if_false, ldW_I, ek]
          rw [if_pos (show ¬ (lg_cmp (wcode k) (Int64.ofNat (n5 l)) = I 0) from fun hz => q (lg_0.1 hz))]
          simp only [nm_eq, I_add]
          rfl
        · intro j hj2
          by_cases e : j = k
          · rw [e]; exact q
          · exact hj j (by omega)) (by
      intro s ⟨hs, hj⟩
      subst hs
      have h5 : (31 : Int) ≤ ((31 : Nat) : Int) := by omega
      refine ⟨.inr (), ?_, ?_⟩
      · simp (disch := first | assumption | omega) only [fX11_of_L2, I_lit, I_le, h5, if_true]
      · rw [cs2_r, wid_n]
        intro ⟨k, hk, he⟩
        exact hj (k + 2) (by omega) ((wk k hk).2 he))
  have e0 : ((0 : Int32)) = I 0 := rfl
  unfold fX11_of
  rw [e0, h1]
  exact h2
def sgn (c : Int) : Prop := c = 59 ∨ c = 60 ∨ c = 61 ∨ c = 62 ∨ c = 40 ∨ c = 41
theorem C_isSign {S : Nat → Nat × Nat} {σ : mm} {c : Int} (hc : -128 ≤ c ∧ c ≤ 127) : fX8_isSign S σ (I c) = some (b2 (sgn c)) := by
  unfold sgn
  simp (disch := first | assumption | omega) only [fX8_isSign, fX8_isSign_b41, fX8_isSign_b36, I_lit, orb_I, I_add, I_sub, I_mul, I_neg, nm_eq, bd0_s, bd2_s, un2_eq, un3_eq, un4_eq, un5_eq, un6_eq, cs2_l, cs2_r, mk_1, mk_2, wI_mk, wL_mk, wR_mk, setR_same, setR_setR, rZ_0, rZ_1, rZ_b2, it_b2, it_nb2, it_b21, it_nb21, I_lt, I_le, I_eq, I_div, castI, if_true, if_false, Classical.not_not]
  (repeat' split) <;> (first | exact sb_t (by omega) | exact sb_f (by omega))
def tkP (Q : Nat → Int → Int) (R : Nat → Int → Int) (n : Int) : Prop := Q 65 3 = R 64 5 ∧ (0 ≤ R 64 5 ∧ (R 64 7 = 0 ∨ R 64 6 < R 64 5)) ∧ R 64 5 ≤ n
def TK (Q : Nat → Int → Int) (c7 : Int64) (st : Option Nat) (R : Nat → Int → Int) (v12 : Int64) (n : Int) : Prop := Q 65 5 = R 64 6 ∧ (0 ≤ R 64 6 ∧ R 64 6 ≤ 940) ∧ ((R 64 7 = 0 ∧ Q 65 4 = 0 ∧ st = some 0 ∧ tkP Q R n) ∨ (R 64 7 = 1 ∧ Q 65 4 = 1 ∧ st = some 0) ∨ (R 64 7 = 4 ∧ sgn (R 64 9) ∧ Q 65 4 = R 64 9 ∧ st = some 0 ∧ tkP Q R n) ∨ (R 64 7 = 2 ∧ Q 65 4 = 2 ∧ tkP Q R n ∧ ∃ l, isNm l ∧ c7 = Int64.ofNat (n5 l) ∧ v12 = Int64.ofNat (n27 l) ∧ st = some (wid l)) ∨ (R 64 7 = 3 ∧ Q 65 4 = 3 ∧ st = some 0 ∧ tkP Q R n ∧ Q 65 6 = R 64 8 ∧ 0 ≤ R 64 8 ∧ R 64 8 ≤ 999))
def fr65 (Q Q' : Nat → Int → Int) (w w' : Nat → Nat → Int64) (rf rf' : Nat → Nat → Option Nat) : Prop := (∀ a, a ≠ 65 → Q' a = Q a) ∧ (∀ j, j = 1 ∨ j = 2 ∨ j = 9 ∨ j = 10 → Q' 65 j = Q 65 j) ∧ (∀ a j, ¬ (a = 65 ∧ j = 7) → w' a j = w a j) ∧ (∀ a j, ¬ (a = 65 ∧ j = 8) → rf' a j = rf a j)
def fr64 (R R' : Nat → Int → Int) (v v' : Nat → Nat → Int64) : Prop := (∀ a, a ≠ 64 → R' a = R a) ∧ (∀ j, j < 5 ∨ 9 < j → R' 64 j = R 64 j) ∧ (∀ a j, ¬ (a = 64 ∧ j = 12) → v' a j = v a j)
theorem up2_out {α : Type} {f : Nat → Nat → α} {a j c i : Nat} {x : α} (h : ¬ (c = a ∧ i = j)) : up2 f a j x c i = f c i := by
  simp only [up2]
  by_cases h1 : c = a
  · rw [if_pos h1, if_neg (fun h2 => h ⟨h1, h2⟩)]
  · rw [if_neg h1]
theorem M_b96 {S : Nat → Nat × Nat} {R : Nat → Int → Int} {w : Nat → Nat → Int64} {rf : Nat → Nat → Option Nat} {n p : Int} (hS : SMok S) (hr : RMok rf) (h3 : R 64 3 = n) (h5 : R 64 5 = p) (hn : n ≤ 940) (hp : 0 ≤ p ∧ p < n) : fX13_go_b96 S (mk R w rf) 64 = (bd0 (fX13_isLetter S (mk R w rf) (I (R 65 p))) fun v3 => if ¬ v3 = 0 then fX13_go_b198 S (mk R w rf) 64 (I (R 65 p)) else bd0 (fX13_isDigit S (mk R w rf) (I (R 65 p))) fun v4 => if ¬ v4 = 0 then fX13_go_b198 S (mk R w rf) 64 (I (R 65 p)) else if I (R 65 p) = (59 : Int32) then fX13_go_b174 S (mk R w rf) 64 (I (R 65 p)) 64 else if I (R 65 p) = (60 : Int32) then fX13_go_b174 S (mk R w rf) 64 (I (R 65 p)) 64 else if I (R 65 p) = (61 : Int32) then fX13_go_b174 S (mk R w rf) 64 (I (R 65 p)) 64 else if I (R 65 p) = (62 : Int32) then fX13_go_b174 S (mk R w rf) 64 (I (R 65 p)) 64 else if I (R 65 p) = (40 : Int32) then fX13_go_b174 S (mk R w rf) 64 (I (R 65 p)) 64 else if ¬ I (R 65 p) = (41 : Int32) then fX13_go_b179 S (mk R w rf) 64 (I (R 65 p)) 64 (1 : Int32) else fX13_go_b174 S (mk R w rf) 64 (I (R 65 p)) 64) := by
  have e5 : (mk R w rf).1 64 5 = I p := by rw [mk_1, castI, h5]
  have e3 : (mk R w rf).1 64 3 = I n := by rw [mk_1, castI, h3]
  unfold fX13_go_b96
  rw [e5, e3, if_pos ((I_lt (by omega) (by omega)).2 hp.2), gM1 hr, ldM65 hS (by omega)]
theorem C_b105 {S : Nat → Nat × Nat} {Q : Nat → Int → Int} {w : Nat → Nat → Int64} {rf : Nat → Nat → Option Nat} {n p : Int} (hS : SCok S) (hr : RCok rf) (h1 : Q 65 1 = n) (h3 : Q 65 3 = p) (hn : n ≤ 940) (hp : 0 ≤ p ∧ p < n) : fX8_next_b105 S (mk Q w rf) 65 = (bd0 (fX8_isSign S (mk Q w rf) (I (Q 66 p))) fun v3 => if v3 = 0 then bd0 (fX8_readRun S (mk Q w rf) 65) fun τ4 => if ¬ (τ4.1 65 4) = (2 : Int32) then fX8_next_b191 S τ4 65 0 else bd0 (fX11_of S τ4 (τ4.2.1 65 7)) fun v5 => ckW v5 (fX8_next_b191 S τ4 65 v5) else some (mk (setR Q 65 (updf (updf (Q 65) 4 (Q 66 p)) 3 (p + 1))) w rf)) := by
  have e3 : (mk Q w rf).1 65 3 = I p := by rw [mk_1, castI, h3]
  have e1 : (mk Q w rf).1 65 1 = I n := by rw [mk_1, castI, h1]
  unfold fX8_next_b105
  rw [e3, e1, if_pos ((I_lt (by omega) (by omega)).2 hp.2), gC65_0 hr, ldC66 hS (by omega)]
  congr 1
  funext v3
  congr 1
  rw [gC65_0 hr, ldC66 hS (by omega)]
  simp (disch := first | assumption | omega) only [fX8_next_b194, I_lit, orb_I, I_add, I_sub, I_mul, I_neg, nm_eq, bd0_s, bd2_s, un2_eq, un3_eq, un4_eq, un5_eq, un6_eq, cs2_l, cs2_r, mk_1, mk_2, wI_mk, wL_mk, wR_mk, setR_same, setR_setR, rZ_0, rZ_1, rZ_b2, it_b2, it_nb2, it_b21, it_nb21, I_lt, I_le, I_eq, I_div, castI, if_true, if_false, Classical.not_not, updf_ne, h3]
theorem C_b191 {S : Nat → Nat × Nat} {Q : Nat → Int → Int} {w : Nat → Nat → Int64} {rf : Nat → Nat → Option Nat} {b : Nat} : fX8_next_b191 S (mk Q w rf) 65 b = some (mk Q w (up2 rf 65 8 (some b))) := rfl
theorem lex {S S' : Nat → Nat × Nat} {Q : Nat → Int → Int} {w : Nat → Nat → Int64} {rf : Nat → Nat → Option Nat} {R : Nat → Int → Int} {v : Nat → Nat → Int64} {rm : Nat → Nat → Option Nat} {n m a : Int} (hS : SCok S) (hS' : SMok S') (hr : RCok rf) (hr' : RMok rm) (tp : tpR (Q 66) n (R 65)) (hn : Q 65 1 = n) (hn' : R 64 3 = n) (hm : Q 65 2 = m) (hm' : R 64 4 = m) (hm0 : 0 ≤ m ∧ m ≤ 940) (ha : Q 65 3 = a) (ha' : R 64 5 = a) (h0 : 0 ≤ a ∧ a ≤ n) : ∃ Q' w' rf' R' v', fX8_next S (mk Q w rf) 65 = some (mk Q' w' rf') ∧ fX13_go S' (mk R v rm) 64 = some (mk R' v' rm) ∧ TK Q' (w' 65 7) (rf' 65 8) R' (v' 64 12) n ∧ fr65 Q Q' w w' rf rf' ∧ fr64 R R' v v' ∧ (R' 64 7 = 1 ∨ a ≤ R' 64 6) := by
  have tp' := tp
  obtain ⟨tn, tb⟩ := tp
  have tb' : ∀ i, 0 ≤ i → i < n → 0 ≤ R 65 i ∧ R 65 i ≤ 255 := fun i h1 h2 => (tb i h1 h2).1
  have cs := C_skip (S := S) (w := w) hS hr tp' hn ha h0
  have ms := M_skip (S := S') (w := v) (rf := rm) hS' hr' tn tb' hn' ha' h0
  obtain ⟨⟨s1, s2⟩, s3⟩ := sk_r (b := R 65) (n := n) (a := a) h0.2
  generalize hp : sk (R 65) n a = p at *
  generalize hQ1 : setR Q 65 (updf (updf (Q 65) 3 p) 5 p) = Q1
  generalize hrf1 : up2 rf 65 8 (some 0) = rf1
  generalize hR1 : setR R 64 (updf (updf (R 64) 5 p) 6 p) = R1
  have q1o : ∀ b, b ≠ 65 → Q1 b = Q b := fun b hb => by rw [← hQ1, setR_ne hb]
  have q165 : ∀ j, j ≠ 3 → j ≠ 5 → Q1 65 j = Q 65 j := fun j h1 h2 => by rw [← hQ1, setR_same, updf_ne h2, updf_ne h1]
  have q13 : Q1 65 3 = p := by rw [← hQ1, setR_same, updf_ne (by omega), updf_same rfl]
  have q15 : Q1 65 5 = p := by rw [← hQ1, setR_same, updf_same rfl]
  have r1o : ∀ b, b ≠ 64 → R1 b = R b := fun b hb => by rw [← hR1, setR_ne hb]
  have r164 : ∀ j, j ≠ 5 → j ≠ 6 → R1 64 j = R 64 j := fun j h1 h2 => by rw [← hR1, setR_same, updf_ne h2, updf_ne h1]
  have r15 : R1 64 5 = p := by rw [← hR1, setR_same, updf_ne (by omega), updf_same rfl]
  have r16 : R1 64 6 = p := by rw [← hR1, setR_same, updf_same rfl]
  have rf1o : ∀ b j, ¬ (b = 65 ∧ j = 8) → rf1 b j = rf b j := fun b j h => by rw [← hrf1, up2_out h]
  have rf18 : rf1 65 8 = some 0 := by rw [← hrf1, up2_same]
  have hr1 : RCok rf1 := RCok_of hr (fun b j h => rf1o b j h.2.2.2.2.2)
  have q1n : Q1 65 1 = n := by rw [q165 1 (by omega) (by omega)]; exact hn
  have q1m : Q1 65 2 = m := by rw [q165 2 (by omega) (by omega)]; exact hm
  have r1n : R1 64 3 = n := by rw [r164 3 (by omega) (by omega)]; exact hn'
  have r1m : R1 64 4 = m := by rw [r164 4 (by omega) (by omega)]; exact hm'
  have tp1 : tpR (Q1 66) n (R 65) := by rw [q1o 66 (by omega)]; exact tp'
  have R165 : R1 65 = R 65 := r1o 65 (by omega)
  have cpre : fX8_next S (mk Q w rf) 65 = if p < m then fX8_next_b105 S (mk Q1 w rf1) 65 else if n ≤ m then fX8_next_b105 S (mk Q1 w rf1) 65 else some (mk (setR Q1 65 (updf (updf (Q1 65) 4 1) 5 m)) w rf1) := by
    unfold fX8_next
    rw [cs]
    simp (disch := first | assumption | omega) only [fX8_next_b52, fX8_next_b194, I_lit, orb_I, I_add, I_sub, I_mul, I_neg, nm_eq, bd0_s, bd2_s, un2_eq, un3_eq, un4_eq, un5_eq, un6_eq, cs2_l, cs2_r, mk_1, mk_2, wI_mk, wL_mk, wR_mk, setR_same, setR_setR, rZ_0, rZ_1, rZ_b2, it_b2, it_nb2, it_b21, it_nb21, I_lt, I_le, I_eq, I_div, castI, if_true, if_false, Classical.not_not, updf_same, updf_ne, hn, hm, hQ1, hrf1]
    rw [q13, q1m, q1n]
  have mpre : fX13_go S' (mk R v rm) 64 = if n ≤ m then fX13_go_b96 S' (mk R1 v rm) 64 else if p < m then fX13_go_b96 S' (mk R1 v rm) 64 else some (mk (setR R1 64 (updf (updf (R1 64) 6 m) 7 1)) v rm) := by
    unfold fX13_go
    rw [ms]
    simp (disch := first | assumption | omega) only [fX13_go_b52, I_lit, orb_I, I_add, I_sub, I_mul, I_neg, nm_eq, bd0_s, bd2_s, un2_eq, un3_eq, un4_eq, un5_eq, un6_eq, cs2_l, cs2_r, mk_1, mk_2, wI_mk, wL_mk, wR_mk, setR_same, setR_setR, rZ_0, rZ_1, rZ_b2, it_b2, it_nb2, it_b21, it_nb21, I_lt, I_le, I_eq, I_div, castI, if_true, if_false, Classical.not_not, updf_same, updf_ne, hn', hm', hR1]
    rw [r1n, r1m, r16]
  by_cases over : ¬ (p < m) ∧ ¬ (n ≤ m)
  · refine ⟨_, w, rf1, _, v, by rw [cpre, if_neg over.1, if_neg over.2], by rw [mpre, if_neg over.2, if_neg over.1], ⟨?_, ?_, Or.inr (Or.inl ⟨?_, ?_, rf18⟩)⟩, ⟨?_, ?_, fun b j h => rfl, rf1o⟩, ⟨?_, ?_, fun b j h => rfl⟩, Or.inl (by rw [setR_same, updf_same rfl])⟩
    · rw [setR_same, setR_same, updf_same rfl, updf_ne (by omega), updf_same rfl]
    · rw [setR_same, updf_ne (by omega), updf_same rfl]; exact hm0
    · rw [setR_same, updf_same rfl]
    · rw [setR_same, updf_ne (by omega), updf_same rfl]
    · intro b hb
      rw [setR_ne hb, q1o b hb]
    · intro j hj
      rw [setR_same, updf_ne (by omega), updf_ne (by omega), q165 j (by omega) (by omega)]
    · intro b hb
      rw [setR_ne hb, r1o b hb]
    · intro j hj
      rw [setR_same, updf_ne (by omega), updf_ne (by omega), r164 j (by omega) (by omega)]
  · have c105 : fX8_next S (mk Q w rf) 65 = fX8_next_b105 S (mk Q1 w rf1) 65 := by
      rw [cpre]
      by_cases c : p < m
      · rw [if_pos c]
      · rw [if_neg c, if_pos]
        by_cases d : n ≤ m
        · exact d
        · exact absurd ⟨c, d⟩ over
    have m96 : fX13_go S' (mk R v rm) 64 = fX13_go_b96 S' (mk R1 v rm) 64 := by
      rw [mpre]
      by_cases d : n ≤ m
      · rw [if_pos d]
      · rw [if_neg d, if_pos]
        by_cases c : p < m
        · exact c
        · exact absurd ⟨c, d⟩ over
    by_cases hend : p < n
    · obtain ⟨t1, t2⟩ := tb p (by omega) hend
      have rg := sb_rng t1
      have q166 : Q1 66 p = sb (R 65 p) := by rw [q1o 66 (by omega)]; exact t2
      have hsg : sgn (sb (R 65 p)) ↔ sgn (R 65 p) := by
        unfold sgn
        rw [sb_eq t1 (by omega), sb_eq t1 (by omega), sb_eq t1 (by omega), sb_eq t1 (by omega), sb_eq t1 (by omega), sb_eq t1 (by omega)]
      have ci := C_isSign (S := S) (σ := mk Q1 w rf1) (c := sb (R 65 p)) (by omega)
      by_cases hs : sgn (R 65 p)
      · have hs' := hsg.2 hs
        have es : sb (R 65 p) = R 65 p := by
          unfold sgn at hs
          unfold sb
          rw [if_pos (by omega)]
        rw [b2_t hs', es] at ci
        have nl : ¬ isL (R 65 p) := by unfold isL; unfold sgn at hs; omega
        have nd : ¬ isD (R 65 p) := by unfold isD; unfold sgn at hs; omega
        have ml := M_isLetter (S := S') (σ := mk R1 v rm) t1
        have md := M_isDigit (S := S') (σ := mk R1 v rm) t1
        rw [b2_f nl] at ml
        rw [b2_f nd] at md
        refine ⟨setR Q1 65 (updf (updf (Q1 65) 4 (R 65 p)) 3 (p + 1)), w, rf1, setR R1 64 (updf (updf (updf (R1 64) 7 4) 9 (R 65 p)) 5 (p + 1)), v, ?_, ?_, ⟨?_, ?_, Or.inr (Or.inr (Or.inl ⟨?_, ?_, ?_, rf18, ?_, ?_, ?_⟩))⟩, ⟨?_, ?_, fun b j h => rfl, rf1o⟩, ⟨?_, ?_, fun b j h => rfl⟩, Or.inr (by rw [setR_same]; simp (disch := first | assumption | omega) only [updf_ne]; omega)⟩
        · rw [c105]
          rw [C_b105 hS hr1 q1n q13 (by omega) (by omega), q166, es, ci, bd0_s, if_neg (by decide)]
        · rw [m96]
          have e74 : fX13_go_b174 S' (mk R1 v rm) 64 (I (R 65 p)) 64 = some (mk (setR R1 64 (updf (updf (updf (R1 64) 7 4) 9 (R 65 p)) 5 (p + 1))) v rm) := by
            simp (disch := first | assumption | omega) only [fX13_go_b174, fX13_go_b179, I_lit, orb_I, I_add, I_sub, I_mul, I_neg, nm_eq, bd0_s, bd2_s, un2_eq, un3_eq, un4_eq, un5_eq, un6_eq, cs2_l, cs2_r, mk_1, mk_2, wI_mk, wL_mk, wR_mk, setR_same, setR_setR, rZ_0, rZ_1, rZ_b2, it_b2, it_nb2, it_b21, it_nb21, I_lt, I_le, I_eq, I_div, castI, if_true, if_false, Classical.not_not, updf_ne, r15]
          rw [M_b96 hS' hr' r1n r15 (by omega) (by omega), R165, ml, bd0_s, if_neg (by decide), md, bd0_s, if_neg (by decide), e74]
          simp (disch := first | assumption | omega) only [I_lit, I_eq]
          unfold sgn at hs
          (repeat' split) <;> first | rfl | omega
        · rw [setR_same, setR_same]
          simp (disch := first | assumption | omega) only [updf_ne]
          rw [q15, r16]
        · rw [setR_same]
          simp (disch := first | assumption | omega) only [updf_ne]
          rw [r16]; omega
        · rw [setR_same]
          simp (disch := first | assumption | omega) only [updf_ne, updf_same]
        · rw [setR_same]
          simp (disch := first | assumption | omega) only [updf_ne, updf_same]
          exact hs
        · rw [setR_same, setR_same]
          simp (disch := first | assumption | omega) only [updf_ne, updf_same]
        · rw [setR_same, setR_same]
          simp (disch := first | assumption | omega) only [updf_same]
        · refine ⟨?_, Or.inr ?_⟩
          · rw [setR_same]
            simp (disch := first | assumption | omega) only [updf_same]
            omega
          · rw [setR_same]
            simp (disch := first | assumption | omega) only [updf_ne, updf_same]
            omega
        · rw [setR_same]
          simp (disch := first | assumption | omega) only [updf_same]
          omega
        · intro b hb
          rw [setR_ne hb, q1o b hb]
        · intro j hj
          rw [setR_same, updf_ne (by omega), updf_ne (by omega), q165 j (by omega) (by omega)]
        · intro b hb
          rw [setR_ne hb, r1o b hb]
        · intro j hj
          rw [setR_same, updf_ne (by omega), updf_ne (by omega), updf_ne (by omega), r164 j (by omega) (by omega)]
      · have hs' : ¬ sgn (sb (R 65 p)) := fun h => hs (hsg.1 h)
        rw [b2_f hs'] at ci
        obtain ⟨⟨u1, u2⟩, u3, u4⟩ := rn_r (b := R 65) (n := n) (a := p) (by omega)
        obtain ⟨L, hL⟩ : ∃ L : Nat, p + L = rn (R 65) n p := ⟨(rn (R 65) n p - p).toNat, by omega⟩
        have cr := C_readRun (S := S) (Q := Q1) (w := w) (rf := rf1) hS hr1 tp1 q1n q13 (by omega) hL
        generalize hQ2 : setR Q1 65 (updf (updf (updf (Q1 65) 6 (ncK (R 65) p L)) 3 (p + L)) 4 (kdC (lcK (R 65) p L) L)) = Q2 at cr
        have q2o : ∀ b, b ≠ 65 → Q2 b = Q b := fun b hb => by rw [← hQ2, setR_ne hb, q1o b hb]
        have q265 : ∀ j, j ≠ 3 → j ≠ 4 → j ≠ 5 → j ≠ 6 → Q2 65 j = Q 65 j := fun j h1 h2 h3 h4 => by rw [← hQ2, setR_same, updf_ne h2, updf_ne h1, updf_ne h4, q165 j h1 h3]
        have q24 : Q2 65 4 = kdC (lcK (R 65) p L) L := by rw [← hQ2, setR_same, updf_same rfl]
        have q23 : Q2 65 3 = p + L := by rw [← hQ2, setR_same, updf_ne (by omega), updf_same rfl]
        have q25 : Q2 65 5 = p := by rw [← hQ2, setR_same, updf_ne (by omega), updf_ne (by omega), updf_ne (by omega)]; exact q15
        have q26 : Q2 65 6 = ncK (R 65) p L := by rw [← hQ2, setR_same, updf_ne (by omega), updf_ne (by omega), updf_same rfl]
        have ml := M_isLetter (S := S') (σ := mk R1 v rm) t1
        have md := M_isDigit (S := S') (σ := mk R1 v rm) t1
        by_cases han : isL (R 65 p) ∨ isD (R 65 p)
        · have hL1 : 1 ≤ L := by
            by_cases e : L = 0
            · have e2 : rn (R 65) n p = p := by omega
              have := u3 (by omega)
              rw [e2] at this
              rcases han with h | h
              · exact absurd h this.1
              · exact absurd h this.2
            · omega
          have mg := M_goRun (S := S') (R := R1) (w := v) (rf := rm) (n := n) (p := p) (L := L) hS' hr' tn (by rw [R165]; exact tb') r1n r16 r15 (by omega) (by rw [R165]; exact hL)
          rw [R165] at mg
          generalize hR2 : setR R1 64 (updf (updf (updf (R1 64) 8 (nrK (R 65) p L)) 5 (p + L)) 7 (kdM (R 65) p L)) = R2 at mg
          have r2o : ∀ b, b ≠ 64 → R2 b = R b := fun b hb => by rw [← hR2, setR_ne hb, r1o b hb]
          have r264 : ∀ j, j < 5 ∨ 9 < j → R2 64 j = R 64 j := fun j hj => by rw [← hR2, setR_same, updf_ne (by omega), updf_ne (by omega), updf_ne (by omega), r164 j (by omega) (by omega)]
          have r27 : R2 64 7 = kdM (R 65) p L := by rw [← hR2, setR_same, updf_same rfl]
          have r25 : R2 64 5 = p + L := by rw [← hR2, setR_same, updf_ne (by omega), updf_same rfl]
          have r26 : R2 64 6 = p := by rw [← hR2, setR_same, updf_ne (by omega), updf_ne (by omega), updf_ne (by omega)]; exact r16
          have r28 : R2 64 8 = nrK (R 65) p L := by rw [← hR2, setR_same, updf_ne (by omega), updf_ne (by omega), updf_same rfl]
          have mgo : fX13_go S' (mk R v rm) 64 = some (mk R2 (up2 v 64 12 (wrK (R 65) p L)) rm) := by
            rw [m96]
            by_cases hl : isL (R 65 p)
            · rw [b2_t hl] at ml
              rw [M_b96 hS' hr' r1n r15 (by omega) (by omega), R165, ml, bd0_s, if_pos (by decide)]
              exact mg
            · have hd : isD (R 65 p) := by
                rcases han with h | h
                · exact absurd h hl
                · exact h
              rw [b2_f hl] at ml
              rw [b2_t hd] at md
              rw [M_b96 hS' hr' r1n r15 (by omega) (by omega), R165, ml, bd0_s, if_neg (by decide), md, bd0_s, if_pos (by decide)]
              exact mg
          have kd := kd_eq (b := R 65) (p := p) hL1
          rw [kd] at q24
          have tkp : tkP Q2 R2 n := ⟨by rw [q23, r25], ⟨by rw [r25]; omega, Or.inr (by rw [r25, r26]; omega)⟩, by rw [r25]; omega⟩
          have frM : fr64 R R2 v (up2 v 64 12 (wrK (R 65) p L)) := ⟨r2o, r264, fun b j h => up2_out h⟩
          have v12 : up2 v 64 12 (wrK (R 65) p L) 64 12 = wrK (R 65) p L := up2_same
          have w57 : up2 w 65 7 (coK (R 65) p L) 65 7 = coK (R 65) p L := up2_same
          have wo : ∀ b j, ¬ (b = 65 ∧ j = 7) → up2 w 65 7 (coK (R 65) p L) b j = w b j := fun b j h => up2_out h
          have fq : ∀ j, j = 1 ∨ j = 2 ∨ j = 9 ∨ j = 10 → Q2 65 j = Q 65 j := fun j hj => q265 j (by omega) (by omega) (by omega) (by omega)
          have gd_j : gdK (R 65) p L → ∀ j : Nat, j < L → (isL (R 65 (p + j)) ↔ isL (R 65 p)) := fun h j hj => h j hj
          by_cases q2 : kdM (R 65) p L = 2
          · have hword : gdK (R 65) p L ∧ isL (R 65 p) ∧ (L : Int) ≤ 7 := by
              unfold kdM ii at q2
              revert q2
              (repeat' split) <;> intro q2 <;> first | omega | exact ⟨by assumption, by assumption, by assumption⟩
            obtain ⟨w1, w2, w3⟩ := hword
            have hall : ∀ j : Nat, j < L → isL (R 65 (p + j)) := fun j hj => (w1 j hj).2 w2
            obtain ⟨c1, c2⟩ := code_eq (b := R 65) (p := p) L (by omega) hall
            have inm := nl_nm (b := R 65) (p := p) hall (by omega)
            have co := C_of (S := S) (σ := mk Q2 (up2 w 65 7 (coK (R 65) p L)) rf1) inm
            have wr := wid_r (l := nlK (R 65) p L)
            generalize hrf2 : up2 rf1 65 8 (some (wid (nlK (R 65) p L))) = rf2
            refine ⟨Q2, up2 w 65 7 (coK (R 65) p L), rf2, R2, up2 v 64 12 (wrK (R 65) p L), ?_, mgo, ⟨by rw [q25, r26], by rw [r26]; omega, Or.inr (Or.inr (Or.inr (Or.inl ⟨by rw [r27, q2], by rw [q24, q2], tkp, nlK (R 65) p L, inm, by rw [w57, c1], by rw [v12, c2], by rw [← hrf2, up2_same]⟩)))⟩, ⟨q2o, fq, wo, fun b j h => by rw [← hrf2, up2_out h, rf1o b j h]⟩, frM, Or.inr (by rw [r26]; omega)⟩
            rw [c105]
            have e2 : (2 : Int) = 2 := rfl
            have wck : ∀ (x : Option mm), ckW (wid (nlK (R 65) p L)) x = x := fun x => by unfold ckW; rw [if_pos wr.2]
            have e24 : (mk Q2 (up2 w 65 7 (coK (R 65) p L)) rf1).1 65 4 = I 2 := by rw [mk_1, castI, q24, q2]
            have e27 : (mk Q2 (up2 w 65 7 (coK (R 65) p L)) rf1).2.1 65 7 = Int64.ofNat (n5 (nlK (R 65) p L)) := by rw [mk_2, w57, c1]
            rw [C_b105 hS hr1 q1n q13 (by omega) (by omega), q166, ci, bd0_s, if_pos (by decide), cr, bd0_s, e24, if_neg (by decide), e27, co, bd0_s, wck, C_b191, hrf2]
          · have hkd : kdM (R 65) p L = 3 ∨ kdM (R 65) p L = 1 := by
              unfold kdM ii at q2 ⊢
              revert q2
              (repeat' split) <;> intro q2 <;> omega
            have rfr : ∀ b j, ¬ (b = 65 ∧ j = 8) → up2 rf1 65 8 (some 0) b j = rf b j := fun b j h => by rw [up2_out h, rf1o b j h]
            have cc : fX8_next S (mk Q w rf) 65 = some (mk Q2 (up2 w 65 7 (coK (R 65) p L)) (up2 rf1 65 8 (some 0))) := by
              rw [c105]
              have e24 : (mk Q2 (up2 w 65 7 (coK (R 65) p L)) rf1).1 65 4 = I (kdM (R 65) p L) := by rw [mk_1, castI, q24]
              have ne2 : ¬ (I (kdM (R 65) p L) = (2 : Int32)) := by
                rcases hkd with h | h <;> rw [h] <;> decide
              rw [C_b105 hS hr1 q1n q13 (by omega) (by omega), q166, ci, bd0_s, if_pos (by decide), cr, bd0_s, e24, if_pos ne2, C_b191]
            rcases hkd with k3 | k1
            · have hnum : gdK (R 65) p L ∧ ¬ isL (R 65 p) ∧ (L : Int) ≤ 3 := by
                unfold kdM ii at k3
                revert k3
                (repeat' split) <;> intro k3 <;> first | omega | exact ⟨by assumption, by assumption, by assumption⟩
              obtain ⟨w1, w2, w3⟩ := hnum
              have hall : ∀ j : Nat, j < L → ¬ isL (R 65 (p + j)) ∧ isD (R 65 (p + j)) := fun j hj => by
                have nl : ¬ isL (R 65 (p + j)) := fun h => w2 ((w1 j hj).1 h)
                refine ⟨nl, ?_⟩
                rcases u4 (p + j) (by omega) (by omega) with h | h
                · exact absurd h nl
                · exact h
              obtain ⟨n1, n2, n3⟩ := num_eq (b := R 65) (p := p) L (by omega) hall
              have n4 : (10 : Int) ^ L ≤ 1000 := by
                have : L = 1 ∨ L = 2 ∨ L = 3 := by omega
                rcases this with h | h | h <;> rw [h] <;> decide
              refine ⟨Q2, up2 w 65 7 (coK (R 65) p L), up2 rf1 65 8 (some 0), R2, up2 v 64 12 (wrK (R 65) p L), cc, mgo, ⟨by rw [q25, r26], by rw [r26]; omega, Or.inr (Or.inr (Or.inr (Or.inr ⟨by rw [r27, k3], by rw [q24, k3], up2_same, tkp, by rw [q26, r28, n1], by rw [r28]; exact n2, by rw [r28]; omega⟩)))⟩, ⟨q2o, fq, wo, rfr⟩, frM, Or.inr (by rw [r26]; omega)⟩
            · refine ⟨Q2, up2 w 65 7 (coK (R 65) p L), up2 rf1 65 8 (some 0), R2, up2 v 64 12 (wrK (R 65) p L), cc, mgo, ⟨by rw [q25, r26], by rw [r26]; omega, Or.inr (Or.inl ⟨by rw [r27, k1], by rw [q24, k1], up2_same⟩)⟩, ⟨q2o, fq, wo, rfr⟩, frM, Or.inr (by rw [r26]; omega)⟩
        · have nl : ¬ isL (R 65 p) := fun h => han (Or.inl h)
          have nd : ¬ isD (R 65 p) := fun h => han (Or.inr h)
          have hL0 : L = 0 := by
            by_cases e : L = 0
            · exact e
            · have := u4 p (by omega) (by omega)
              exact absurd this han
          subst hL0
          have k1 : kdC (lcK (R 65) p 0) ((0 : Nat) : Int) = 1 := by
            show kdC 0 0 = 1
            unfold kdC
            rw [ii_f (by omega), ii_f (by omega)]
          rw [k1] at q24
          rw [b2_f nl] at ml
          rw [b2_f nd] at md
          refine ⟨Q2, up2 w 65 7 (coK (R 65) p 0), up2 rf1 65 8 (some 0), setR R1 64 (updf (updf (updf (R1 64) 7 1) 9 (R 65 p)) 5 (p + 1)), v, ?_, ?_, ⟨?_, ?_, Or.inr (Or.inl ⟨?_, q24, up2_same⟩)⟩, ⟨q2o, fun j hj => q265 j (by omega) (by omega) (by omega) (by omega), fun b j h => up2_out h, fun b j h => by rw [up2_out h, rf1o b j h]⟩, ⟨?_, ?_, fun b j h => rfl⟩, Or.inl (by rw [setR_same]; simp (disch := first | assumption | omega) only [updf_ne, updf_same])⟩
          · rw [c105]
            have e24 : (mk Q2 (up2 w 65 7 (coK (R 65) p 0)) rf1).1 65 4 = I 1 := by rw [mk_1, castI, q24]
            rw [C_b105 hS hr1 q1n q13 (by omega) (by omega), q166, ci, bd0_s, if_pos (by decide), cr, bd0_s, e24, if_pos (by decide), C_b191]
          · rw [m96]
            unfold sgn at hs
            have s59 : ¬ (R 65 p = 59) := by omega
            have s60 : ¬ (R 65 p = 60) := by omega
            have s61 : ¬ (R 65 p = 61) := by omega
            have s62 : ¬ (R 65 p = 62) := by omega
            have s40 : ¬ (R 65 p = 40) := by omega
            have s41 : ¬ (R 65 p = 41) := by omega
            rw [M_b96 hS' hr' r1n r15 (by omega) (by omega), R165, ml, bd0_s, if_neg (by decide), md, bd0_s, if_neg (by decide)]
            simp (disch := first | assumption | omega) only [I_lit, I_eq, s59, s60, s61, s62, s40, s41, if_false, if_true, not_false_eq_true]
            simp (disch := first | assumption | omega) only [fX13_go_b179, I_lit, orb_I, I_add, I_sub, I_mul, I_neg, nm_eq, bd0_s, bd2_s, un2_eq, un3_eq, un4_eq, un5_eq, un6_eq, cs2_l, cs2_r, mk_1, mk_2, wI_mk, wL_mk, wR_mk, setR_same, setR_setR, rZ_0, rZ_1, rZ_b2, it_b2, it_nb2, it_b21, it_nb21, I_lt, I_le, I_eq, I_div, castI, if_true, if_false, Classical.not_not, updf_ne, r15]
          · rw [q25, setR_same]
            simp (disch := first | assumption | omega) only [updf_ne]
            rw [r16]
          · rw [setR_same]
            simp (disch := first | assumption | omega) only [updf_ne]
            rw [r16]; omega
          · rw [setR_same]
            simp (disch := first | assumption | omega) only [updf_ne, updf_same]
          · intro b hb
            rw [setR_ne hb, r1o b hb]
          · intro j hj
            rw [setR_same, updf_ne (by omega), updf_ne (by omega), updf_ne (by omega), r164 j (by omega) (by omega)]
    · have hpn : p = n := by omega
      refine ⟨setR Q1 65 (updf (Q1 65) 4 0), w, rf1, setR R1 64 (updf (R1 64) 7 0), v, ?_, ?_, ⟨?_, ?_, Or.inl ⟨?_, ?_, rf18, ?_, ?_, ?_⟩⟩, ⟨?_, ?_, fun b j h => rfl, rf1o⟩, ⟨?_, ?_, fun b j h => rfl⟩, Or.inr (by rw [setR_same, updf_ne (by omega), r16]; omega)⟩
      · rw [c105]
        simp (disch := first | assumption | omega) only [fX8_next_b105, fX8_next_b194, I_lit, orb_I, I_add, I_sub, I_mul, I_neg, nm_eq, bd0_s, bd2_s, un2_eq, un3_eq, un4_eq, un5_eq, un6_eq, cs2_l, cs2_r, mk_1, mk_2, wI_mk, wL_mk, wR_mk, setR_same, setR_setR, rZ_0, rZ_1, rZ_b2, it_b2, it_nb2, it_b21, it_nb21, I_lt, I_le, I_eq, I_div, castI, if_true, if_false, Classical.not_not, q13, q1n, hend]
      · rw [m96]
        simp (disch := first | assumption | omega) only [fX13_go_b96, I_lit, orb_I, I_add, I_sub, I_mul, I_neg, nm_eq, bd0_s, bd2_s, un2_eq, un3_eq, un4_eq, un5_eq, un6_eq, cs2_l, cs2_r, mk_1, mk_2, wI_mk, wL_mk, wR_mk, setR_same, setR_setR, rZ_0, rZ_1, rZ_b2, it_b2, it_nb2, it_b21, it_nb21, I_lt, I_le, I_eq, I_div, castI, if_true, if_false, Classical.not_not, r15, r1n, hend]
      · rw [setR_same, setR_same, updf_ne (by omega), updf_ne (by omega), q15, r16]
      · rw [setR_same, updf_ne (by omega), r16]; omega
      · rw [setR_same, updf_same rfl]
      · rw [setR_same, updf_same rfl]
      · rw [setR_same, setR_same, updf_ne (by omega), updf_ne (by omega), q13, r15]
      · exact ⟨by rw [setR_same, updf_ne (by omega), r15]; omega, Or.inl (by rw [setR_same, updf_same rfl])⟩
      · rw [setR_same, updf_ne (by omega), r15]; omega
      · intro b hb
        rw [setR_ne hb, q1o b hb]
      · intro j hj
        rw [setR_same, updf_ne (by omega), q165 j (by omega) (by omega)]
      · intro b hb
        rw [setR_ne hb, r1o b hb]
      · intro j hj
        rw [setR_same, updf_ne (by omega), r164 j (by omega) (by omega)]
