def I (z : Int) : Int32 := Int32.ofInt z
theorem I_add (a b : Int) : I a + I b = I (a + b) := (Int32.ofInt_add a b).symm
theorem I_sub (a b : Int) : I a - I b = I (a - b) := (Int32.ofInt_sub a b).symm
theorem I_mul (a b : Int) : I a * I b = I (a * b) := (Int32.ofInt_mul a b).symm
theorem I_neg (a : Int) : - I a = I (- a) := (Int32.ofInt_neg a).symm
theorem I_lit (n : Nat) : (OfNat.ofNat n : Int32) = I (OfNat.ofNat n) := by
  cases n with
  | zero => rfl
  | succ n => rfl
theorem castI (n : Nat) : ((no_index (OfNat.ofNat n) : Nat) : Int) = OfNat.ofNat n := by
  cases n with
  | zero => rfl
  | succ n => rfl
theorem I_toInt {a : Int} (h : -2147483648 ≤ a) (h2 : a < 2147483648) : (I a).toInt = a := Int32.toInt_ofInt_of_le h h2
theorem I_of (x : Int32) : I x.toInt = x := Int32.ofInt_toInt x
theorem I_lt {a b : Int} (h : -2147483648 ≤ a ∧ a < 2147483648) (h2 : -2147483648 ≤ b ∧ b < 2147483648) : I a < I b ↔ a < b := by
  rw [Int32.lt_iff_toInt_lt, I_toInt h.1 h.2, I_toInt h2.1 h2.2]
theorem I_le {a b : Int} (h : -2147483648 ≤ a ∧ a < 2147483648) (h2 : -2147483648 ≤ b ∧ b < 2147483648) : I a ≤ I b ↔ a ≤ b := by
  rw [Int32.le_iff_toInt_le, I_toInt h.1 h.2, I_toInt h2.1 h2.2]
theorem I_eq {a b : Int} (h : -2147483648 ≤ a ∧ a < 2147483648) (h2 : -2147483648 ≤ b ∧ b < 2147483648) : I a = I b ↔ a = b := by
  constructor
  · intro h3
    have := congrArg Int32.toInt h3
    rwa [I_toInt h.1 h.2, I_toInt h2.1 h2.2] at this
  · intro h3
    rw [h3]
theorem I_tc {a : Int} (h : -2147483648 ≤ a) (h2 : a < 2147483648) : (I a).toNatClampNeg = a.toNat := by
  show (I a).toInt.toNat = a.toNat
  rw [I_toInt h h2]
theorem I_div {a b : Int} (h : 0 ≤ a ∧ a < 2147483648) (h2 : 0 < b ∧ b < 2147483648) : I a / I b = I (a / b) := by
  rw [← Int32.toInt_inj, Int32.toInt_div, I_toInt (by omega) h.2, I_toInt (by omega) h2.2, Int.tdiv_eq_ediv_of_nonneg h.1]
  have h3 : 0 ≤ a / b := Int.ediv_nonneg h.1 (by omega)
  have h4 : a / b ≤ a := Int.ediv_le_self b h.1
  rw [I_toInt (by omega) (by omega)]
  apply Int.bmod_eq_of_le <;> omega
theorem inb_I {z : Int} {n : Nat} (h : 0 ≤ z) (h2 : z < n) (h3 : z < 2147483648) : inb (I z) n = true := by
  have h4 : ¬ (I z < 0) := by
    rw [I_lit, I_lt (by omega) (by decide)]
    omega
  simp only [inb, h4, decide_false, Bool.not_false, Bool.true_and, decide_eq_true_eq]
  rw [I_tc (by omega) h3]
  omega
def mk (R : Nat → Int → Int) (w : Nat → Nat → Int64) (rf : Nat → Nat → Option Nat) : mm := (fun a j => I (R a j), w, rf)
def setR (R : Nat → Int → Int) (a : Nat) (N : Int → Int) : Nat → Int → Int := fun b => if b = a then N else R b
def updf (N : Int → Int) (z x : Int) : Int → Int := fun y => if y = z then x else N y
theorem setR_same {R : Nat → Int → Int} {a : Nat} {N : Int → Int} : setR R a N a = N := by simp [setR]
theorem setR_ne {R : Nat → Int → Int} {a b : Nat} {N : Int → Int} (h : b ≠ a) : setR R a N b = R b := by simp [setR, h]
theorem setR_setR {R : Nat → Int → Int} {a : Nat} {N N' : Int → Int} : setR (setR R a N) a N' = setR R a N' := by
  funext b
  simp only [setR]
  split <;> rfl
theorem setR_id {R : Nat → Int → Int} {a : Nat} : setR R a (R a) = R := by
  funext b
  simp only [setR]
  split
  · rename_i h
    rw [h]
  · rfl
theorem updf_same {N : Int → Int} {z x y : Int} (h : y = z) : updf N z x y = x := by simp [updf, h]
theorem updf_ne {N : Int → Int} {z x y : Int} (h : y ≠ z) : updf N z x y = N y := by simp [updf, h]
theorem mk_1 {R : Nat → Int → Int} {w : Nat → Nat → Int64} {rf : Nat → Nat → Option Nat} {a j : Nat} : (mk R w rf).1 a j = I (R a j) := by
  cases j with
  | zero => rfl
  | succ n => rfl
theorem mk_2 {R : Nat → Int → Int} {w : Nat → Nat → Int64} {rf : Nat → Nat → Option Nat} {a j : Nat} : (mk R w rf).2.1 a j = w a j := by
  cases j with
  | zero => rfl
  | succ n => rfl
theorem mk_3 {R : Nat → Int → Int} {w : Nat → Nat → Int64} {rf : Nat → Nat → Option Nat} {a j : Nat} : (mk R w rf).2.2 a j = rf a j := by
  cases j with
  | zero => rfl
  | succ n => rfl
theorem gR_mk {α : Type} {R : Nat → Int → Int} {w : Nat → Nat → Int64} {rf : Nat → Nat → Option Nat} {F : Nat → Option α} {a j b : Nat} (h : rf a j = some b) : gR (mk R w rf) a j F = F b := by
  simp only [gR, mk_3, h, Option.bind_some]
theorem ldI_mk {α : Type} {S : Nat → Nat × Nat} {R : Nat → Int → Int} {w : Nat → Nat → Int64} {rf : Nat → Nat → Option Nat} {F : Int32 → Option α} {a n : Nat} {z : Int} (hS : (S a).2 = n) (h : 0 ≤ z ∧ z < n) (h2 : n < 2147483648) : ldI S (mk R w rf) a (I z) F = F (I (R a z)) := by
  have h1 : inb (I z) (S a).2 = true := inb_I h.1 (by rw [hS]; exact h.2) (by omega)
  have h3 : ((z.toNat : Nat) : Int) = z := Int.toNat_of_nonneg h.1
  simp only [ldI, h1, if_true, mk_1]
  rw [I_tc (by omega) (by omega), h3]
theorem ldL_mk {α : Type} {S : Nat → Nat × Nat} {R : Nat → Int → Int} {w : Nat → Nat → Int64} {rf : Nat → Nat → Option Nat} {F : Int64 → Option α} {a n : Nat} {z : Int} (hS : (S a).2 = n) (h : 0 ≤ z ∧ z < n) (h2 : n < 2147483648) : ldL S (mk R w rf) a (I z) F = F (w a z.toNat) := by
  have h1 : inb (I z) (S a).2 = true := inb_I h.1 (by rw [hS]; exact h.2) (by omega)
  simp only [ldL, h1, if_true, mk_2]
  rw [I_tc (by omega) (by omega)]
theorem up2_mk {R : Nat → Int → Int} {w : Nat → Nat → Int64} {rf : Nat → Nat → Option Nat} {a j : Nat} {x : Int} : (up2 (mk R w rf).1 a j (I x), (mk R w rf).2.1, (mk R w rf).2.2) = mk (setR R a (updf (R a) j x)) w rf := by
  have : up2 (mk R w rf).1 a j (I x) = (mk (setR R a (updf (R a) j x)) w rf).1 := by
    funext b k
    simp only [up2, mk_1, setR]
    split
    · rename_i h
      simp only [updf, h]
      by_cases hk : k = j
      · simp [hk]
      · have : ¬ ((k : Int) = j) := by omega
        simp [hk, this]
    · rfl
  rw [this]
  rfl
theorem stI_mk {α : Type} {S : Nat → Nat × Nat} {R : Nat → Int → Int} {w : Nat → Nat → Int64} {rf : Nat → Nat → Option Nat} {F : mm → Option α} {a n : Nat} {z x : Int} (hS : (S a).2 = n) (h : 0 ≤ z ∧ z < n) (h2 : n < 2147483648) : stI S (mk R w rf) a (I z) (I x) F = F (mk (setR R a (updf (R a) z x)) w rf) := by
  have h1 : inb (I z) (S a).2 = true := inb_I h.1 (by rw [hS]; exact h.2) (by omega)
  have h3 : ((z.toNat : Nat) : Int) = z := Int.toNat_of_nonneg h.1
  simp only [stI, h1, if_true]
  rw [I_tc (by omega) (by omega), up2_mk, h3]
theorem stL_mk {α : Type} {S : Nat → Nat × Nat} {R : Nat → Int → Int} {w : Nat → Nat → Int64} {rf : Nat → Nat → Option Nat} {F : mm → Option α} {a n : Nat} {z : Int} {x : Int64} (hS : (S a).2 = n) (h : 0 ≤ z ∧ z < n) (h2 : n < 2147483648) : stL S (mk R w rf) a (I z) x F = F (mk R (up2 w a z.toNat x) rf) := by
  have h1 : inb (I z) (S a).2 = true := inb_I h.1 (by rw [hS]; exact h.2) (by omega)
  simp only [stL, h1, if_true]
  rw [I_tc (by omega) (by omega)]
  rfl
theorem stZ_mk {α : Type} {S : Nat → Nat × Nat} {R : Nat → Int → Int} {w : Nat → Nat → Int64} {rf : Nat → Nat → Option Nat} {F : mm → Option α} {a n : Nat} {z x : Int} (hS : (S a).2 = n) (h : 0 ≤ z ∧ z < n) (h2 : n < 2147483648) (hx : x = 0 ∨ x = 1) : stZ S (mk R w rf) a (I z) (I x) F = F (mk (setR R a (updf (R a) z x)) w rf) := by
  have h1 : inb (I z) (S a).2 = true := inb_I h.1 (by rw [hS]; exact h.2) (by omega)
  have h3 : ((z.toNat : Nat) : Int) = z := Int.toNat_of_nonneg h.1
  have h4 : I x &&& 1 = I x := by
    rcases hx with h | h <;> subst h <;> decide
  simp only [stZ, h1, if_true, h4]
  rw [I_tc (by omega) (by omega), up2_mk, h3]
theorem stB_mk {α : Type} {S : Nat → Nat × Nat} {R : Nat → Int → Int} {w : Nat → Nat → Int64} {rf : Nat → Nat → Option Nat} {F : mm → Option α} {a n : Nat} {z : Int} {x : Int32} (hS : (S a).2 = n) (h : 0 ≤ z ∧ z < n) (h2 : n < 2147483648) : stB S (mk R w rf) a (I z) x F = F (mk (setR R a (updf (R a) z x.toInt8.toInt32.toInt)) w rf) := by
  have h1 : inb (I z) (S a).2 = true := inb_I h.1 (by rw [hS]; exact h.2) (by omega)
  have h3 : ((z.toNat : Nat) : Int) = z := Int.toNat_of_nonneg h.1
  have h4 : x.toInt8.toInt32 = I x.toInt8.toInt32.toInt := (I_of _).symm
  simp only [stB, h1, if_true]
  rw [h4, I_tc (by omega) (by omega), up2_mk, h3, ← h4]
theorem wI_mk {α : Type} {R : Nat → Int → Int} {w : Nat → Nat → Int64} {rf : Nat → Nat → Option Nat} {F : mm → Option α} {a j : Nat} {x : Int} : wI (mk R w rf) a j (I x) F = F (mk (setR R a (updf (R a) j x)) w rf) := by
  simp only [wI]
  rw [up2_mk]
theorem wL_mk {α : Type} {R : Nat → Int → Int} {w : Nat → Nat → Int64} {rf : Nat → Nat → Option Nat} {F : mm → Option α} {a j : Nat} {x : Int64} : wL (mk R w rf) a j x F = F (mk R (up2 w a j x) rf) := rfl
theorem wZ_mk {α : Type} {R : Nat → Int → Int} {w : Nat → Nat → Int64} {rf : Nat → Nat → Option Nat} {F : mm → Option α} {a j : Nat} {x : Int} (hx : x = 0 ∨ x = 1) : wZ (mk R w rf) a j (I x) F = F (mk (setR R a (updf (R a) j x)) w rf) := by
  have h4 : isb (I x) = true := by
    rcases hx with h | h <;> subst h <;> decide
  simp only [wZ, h4, if_true]
  rw [up2_mk]
theorem wR_mk {α : Type} {R : Nat → Int → Int} {w : Nat → Nat → Int64} {rf : Nat → Nat → Option Nat} {F : mm → Option α} {a j b : Nat} : wR (mk R w rf) a j b F = F (mk R w (up2 rf a j (some b))) := rfl
theorem nm_eq {α β : Type} {x : α} {F : α → β} : nm x F = F x := rfl
theorem bd0_s {α β : Type} {x : α} {F : α → Option β} : bd0 (some x) F = F x := rfl
theorem bd2_s {α β : Type} {x : α × mm} {F : α → mm → Option β} : bd2 (some x) F = F x.1 x.2 := rfl
theorem un2_eq {A1 A2 B : Type} {F : A1 → A2 → B} {a : A1} {b : A2} : un2 F (a, b) = F a b := rfl
theorem un3_eq {A1 A2 A3 B : Type} {F : A1 → A2 → A3 → B} {a : A1} {b : A2} {c : A3} : un3 F (a, b, c) = F a b c := rfl
theorem un4_eq {A1 A2 A3 A4 B : Type} {F : A1 → A2 → A3 → A4 → B} {a : A1} {b : A2} {c : A3} {d : A4} : un4 F (a, b, c, d) = F a b c d := rfl
theorem un5_eq {A1 A2 A3 A4 A5 B : Type} {F : A1 → A2 → A3 → A4 → A5 → B} {a : A1} {b : A2} {c : A3} {d : A4} {e : A5} : un5 F (a, b, c, d, e) = F a b c d e := rfl
theorem un6_eq {A1 A2 A3 A4 A5 A6 B : Type} {F : A1 → A2 → A3 → A4 → A5 → A6 → B} {a : A1} {b : A2} {c : A3} {d : A4} {e : A5} {f : A6} : un6 F (a, b, c, d, e, f) = F a b c d e f := rfl
theorem cs2_l {A1 A2 B : Type} {F1 : A1 → B} {F2 : A2 → B} {x : A1} : cs2 F1 F2 (.inl x) = F1 x := rfl
theorem cs2_r {A1 A2 B : Type} {F1 : A1 → B} {F2 : A2 → B} {x : A2} : cs2 F1 F2 (.inr x) = F2 x := rfl
noncomputable def b2 (p : Prop) : Int32 := @ite _ p (Classical.propDecidable p) 1 0
theorem b2_t {p : Prop} (h : p) : b2 p = 1 := by simp [b2, h]
theorem b2_f {p : Prop} (h : ¬ p) : b2 p = 0 := by simp [b2, h]
theorem b2_0 {p : Prop} : (b2 p = 0) ↔ ¬ p := by
  by_cases h : p
  · simp [b2, h]
  · simp [b2, h]
theorem b2_I0 {p : Prop} : (b2 p = I 0) ↔ ¬ p := b2_0
theorem b2_I1 {p : Prop} : (b2 p = I 1) ↔ p := by
  show (b2 p = 1) ↔ p
  by_cases h : p
  · simp [b2, h]
  · simp [b2, h]
theorem it_b2 {α : Type} {p : Prop} {a b : α} {d : Decidable (b2 p = I 0)} : @ite α (b2 p = I 0) d a b = @ite α p (Classical.propDecidable p) b a := by
  by_cases h : p
  · rw [if_pos h, if_neg (by rw [b2_I0]; exact fun g => g h)]
  · rw [if_neg h, if_pos (by rw [b2_I0]; exact h)]
theorem it_nb2 {α : Type} {p : Prop} {a b : α} {d : Decidable (¬ b2 p = I 0)} : @ite α (¬ b2 p = I 0) d a b = @ite α p (Classical.propDecidable p) a b := by
  by_cases h : p
  · rw [if_pos h, if_pos (by rw [b2_I0]; exact fun g => g h)]
  · rw [if_neg h, if_neg (by rw [b2_I0]; exact fun g => g h)]
theorem it_b21 {α : Type} {p : Prop} {a b : α} {d : Decidable (b2 p = I 1)} : @ite α (b2 p = I 1) d a b = @ite α p (Classical.propDecidable p) a b := by
  by_cases h : p
  · rw [if_pos h, if_pos (by rw [b2_I1]; exact h)]
  · rw [if_neg h, if_neg (by rw [b2_I1]; exact h)]
theorem it_nb21 {α : Type} {p : Prop} {a b : α} {d : Decidable (¬ b2 p = I 1)} : @ite α (¬ b2 p = I 1) d a b = @ite α p (Classical.propDecidable p) b a := by
  by_cases h : p
  · rw [if_pos h, if_neg (by rw [b2_I1]; exact fun g => g h)]
  · rw [if_neg h, if_pos (by rw [b2_I1]; exact h)]
theorem rZ_b2 {α : Type} {p : Prop} {x : Option α} : rZ (b2 p) x = x := by
  have : isb (b2 p) = true := by
    by_cases h : p
    · simp [b2, h, isb]
    · simp [b2, h, isb]
  simp only [rZ, this, if_true]
theorem rZ_0 {α : Type} {x : Option α} : rZ (I 0) x = x := rfl
theorem rZ_1 {α : Type} {x : Option α} : rZ (I 1) x = x := rfl
theorem b2_eq {p q : Prop} (h : p ↔ q) : b2 p = b2 q := by rw [propext h]
noncomputable def ii {α : Type} (p : Prop) (a b : α) : α := @ite _ p (Classical.propDecidable p) a b
theorem ii_t {α : Type} {p : Prop} {a b : α} (h : p) : ii p a b = a := by simp [ii, h]
theorem ii_f {α : Type} {p : Prop} {a b : α} (h : ¬ p) : ii p a b = b := by simp [ii, h]
theorem b2_ii {p : Prop} : b2 p = I (ii p 1 0) := by
  by_cases h : p
  · rw [b2_t h, ii_t h]; rfl
  · rw [b2_f h, ii_f h]; rfl
theorem updf_comm {N : Int → Int} {z z' x x' : Int} (h : z ≠ z') : updf (updf N z x) z' x' = updf (updf N z' x') z x := by
  funext y
  simp only [updf]
  by_cases h1 : y = z
  · by_cases h2 : y = z'
    · omega
    · simp only [h1, h2, if_true, if_false, h]
  · by_cases h2 : y = z'
    · simp only [h1, h2, if_true, if_false]
      have : ¬ (z' = z) := fun h' => h h'.symm
      simp only [this, if_false]
    · simp only [h1, h2, if_false]
theorem updf_updf {N : Int → Int} {z x x' : Int} : updf (updf N z x) z x' = updf N z x' := by
  funext y
  simp only [updf]
  split <;> rfl
def orbA (s k : Int) : Int := (I s ||| ((1 : Int32) <<< (I k &&& 31))).toInt
theorem orb_I {s k : Int} : I s ||| (I 1 <<< (I k &&& I 31)) = I (orbA s k) := (I_of _).symm
theorem mxI_I {a b : Int} (h : -2147483648 ≤ a ∧ a < 2147483648) (h2 : -2147483648 ≤ b ∧ b < 2147483648) : mxI (I a) (I b) = I (max a b) := by
  simp only [mxI, I_lt h h2]
  split
  · congr 1; omega
  · congr 1; omega
theorem mnI_I {a b : Int} (h : -2147483648 ≤ a ∧ a < 2147483648) (h2 : -2147483648 ≤ b ∧ b < 2147483648) : mnI (I a) (I b) = I (min a b) := by
  simp only [mnI, I_lt h2 h]
  split
  · congr 1; omega
  · congr 1; omega
theorem loop_seq {α β : Type} {f : α → Option (α ⊕ β)} (T : Nat → α) (n : Nat) {r : β} {m : Nat} (hm : n < m) (h1 : ∀ k, k < n → f (T k) = some (.inl (T (k + 1)))) (h2 : f (T n) = some (.inr r)) : loopN f m (T 0) = some r := by
  induction n generalizing T m with
  | zero =>
    cases m with
    | zero => omega
    | succ m => simp only [loopN, h2]
  | succ n ih =>
    cases m with
    | zero => omega
    | succ m =>
      simp only [loopN, h1 0 (by omega)]
      exact ih (fun k => T (k + 1)) (by omega) (fun k hk => h1 (k + 1) (by omega)) h2
theorem loop_inv {α β : Type} {f : α → Option (α ⊕ β)} (Inv : Nat → α → Prop) (Post : β → Prop) (n : Nat) {s : α} {m : Nat} (hm : n < m) (h0 : Inv 0 s)
    (h1 : ∀ k t, k < n → Inv k t → (∃ t', f t = some (.inl t') ∧ Inv (k + 1) t') ∨ (∃ r, f t = some (.inr r) ∧ Post r))
    (h2 : ∀ t, Inv n t → ∃ r, f t = some (.inr r) ∧ Post r) : ∃ r, loopN f m s = some r ∧ Post r := by
  induction n generalizing Inv s m with
  | zero =>
    cases m with
    | zero => omega
    | succ m =>
      obtain ⟨r, hr, hp⟩ := h2 s h0
      exact ⟨r, by simp only [loopN, hr], hp⟩
  | succ n ih =>
    cases m with
    | zero => omega
    | succ m =>
      rcases h1 0 s (by omega) h0 with ⟨t', ht, hi⟩ | ⟨r, hr, hp⟩
      · simp only [loopN, ht]
        exact ih (fun k => Inv (k + 1)) (by omega) hi (fun k t hk => h1 (k + 1) t (by omega)) h2
      · exact ⟨r, by simp only [loopN, hr], hp⟩
def SMok (S : Nat → Nat × Nat) : Prop := (S 65).2 = 940 ∧ (S 66).2 = 383 ∧ (S 67).2 = 102 ∧ (S 68).2 = 766 ∧ (S 69).2 = 312 ∧ (S 70).2 = 39 ∧ (S 71).2 = 18 ∧ (S 72).2 = 18 ∧ (S 73).2 = 36 ∧ (S 74).2 = 2 ∧ (S 75).2 = 4 ∧ (S 76).2 = 15921 ∧ (S 77).2 = 60 ∧ (S 78).2 = 64 ∧ (S 79).2 = 120 ∧ (S 80).2 = 4 ∧ (S 81).2 = 240
def RMok (rf : Nat → Nat → Option Nat) : Prop := rf 64 1 = some 65 ∧ rf 64 14 = some 66 ∧ rf 64 15 = some 67 ∧ rf 64 16 = some 68 ∧ rf 64 17 = some 69 ∧ rf 64 18 = some 70 ∧ rf 64 19 = some 71 ∧ rf 64 20 = some 72 ∧ rf 64 21 = some 73 ∧ rf 64 22 = some 74 ∧ rf 64 25 = some 75 ∧ rf 64 26 = some 76 ∧ rf 64 27 = some 77 ∧ rf 64 31 = some 78 ∧ rf 64 34 = some 79 ∧ rf 64 35 = some 80 ∧ rf 64 38 = some 81
theorem gM1 {α : Type} {R : Nat → Int → Int} {w : Nat → Nat → Int64} {rf : Nat → Nat → Option Nat} {F : Nat → Option α} (hr : RMok rf) : gR (mk R w rf) 64 1 F = F 65 := gR_mk hr.1
theorem ldM65 {α : Type} {S : Nat → Nat × Nat} {R : Nat → Int → Int} {w : Nat → Nat → Int64} {rf : Nat → Nat → Option Nat} {F : Int32 → Option α} {z : Int} (hS : SMok S) (h : 0 ≤ z ∧ z < 940) : ldI S (mk R w rf) 65 (I z) F = F (I (R 65 z)) := ldI_mk hS.1 h (by decide)
theorem stM65 {α : Type} {S : Nat → Nat × Nat} {R : Nat → Int → Int} {w : Nat → Nat → Int64} {rf : Nat → Nat → Option Nat} {F : mm → Option α} {z x : Int} (hS : SMok S) (h : 0 ≤ z ∧ z < 940) : stI S (mk R w rf) 65 (I z) (I x) F = F (mk (setR R 65 (updf (R 65) z x)) w rf) := stI_mk hS.1 h (by decide)
theorem gM14 {α : Type} {R : Nat → Int → Int} {w : Nat → Nat → Int64} {rf : Nat → Nat → Option Nat} {F : Nat → Option α} (hr : RMok rf) : gR (mk R w rf) 64 14 F = F 66 := gR_mk hr.2.1
theorem ldM66 {α : Type} {S : Nat → Nat × Nat} {R : Nat → Int → Int} {w : Nat → Nat → Int64} {rf : Nat → Nat → Option Nat} {F : Int32 → Option α} {z : Int} (hS : SMok S) (h : 0 ≤ z ∧ z < 383) : ldI S (mk R w rf) 66 (I z) F = F (I (R 66 z)) := ldI_mk hS.2.1 h (by decide)
theorem stM66 {α : Type} {S : Nat → Nat × Nat} {R : Nat → Int → Int} {w : Nat → Nat → Int64} {rf : Nat → Nat → Option Nat} {F : mm → Option α} {z x : Int} (hS : SMok S) (h : 0 ≤ z ∧ z < 383) : stI S (mk R w rf) 66 (I z) (I x) F = F (mk (setR R 66 (updf (R 66) z x)) w rf) := stI_mk hS.2.1 h (by decide)
theorem gM15 {α : Type} {R : Nat → Int → Int} {w : Nat → Nat → Int64} {rf : Nat → Nat → Option Nat} {F : Nat → Option α} (hr : RMok rf) : gR (mk R w rf) 64 15 F = F 67 := gR_mk hr.2.2.1
theorem ldM67 {α : Type} {S : Nat → Nat × Nat} {R : Nat → Int → Int} {w : Nat → Nat → Int64} {rf : Nat → Nat → Option Nat} {F : Int32 → Option α} {z : Int} (hS : SMok S) (h : 0 ≤ z ∧ z < 102) : ldI S (mk R w rf) 67 (I z) F = F (I (R 67 z)) := ldI_mk hS.2.2.1 h (by decide)
theorem stM67 {α : Type} {S : Nat → Nat × Nat} {R : Nat → Int → Int} {w : Nat → Nat → Int64} {rf : Nat → Nat → Option Nat} {F : mm → Option α} {z x : Int} (hS : SMok S) (h : 0 ≤ z ∧ z < 102) : stI S (mk R w rf) 67 (I z) (I x) F = F (mk (setR R 67 (updf (R 67) z x)) w rf) := stI_mk hS.2.2.1 h (by decide)
theorem gM16 {α : Type} {R : Nat → Int → Int} {w : Nat → Nat → Int64} {rf : Nat → Nat → Option Nat} {F : Nat → Option α} (hr : RMok rf) : gR (mk R w rf) 64 16 F = F 68 := gR_mk hr.2.2.2.1
theorem ldM68 {α : Type} {S : Nat → Nat × Nat} {R : Nat → Int → Int} {w : Nat → Nat → Int64} {rf : Nat → Nat → Option Nat} {F : Int32 → Option α} {z : Int} (hS : SMok S) (h : 0 ≤ z ∧ z < 766) : ldI S (mk R w rf) 68 (I z) F = F (I (R 68 z)) := ldI_mk hS.2.2.2.1 h (by decide)
theorem stM68 {α : Type} {S : Nat → Nat × Nat} {R : Nat → Int → Int} {w : Nat → Nat → Int64} {rf : Nat → Nat → Option Nat} {F : mm → Option α} {z x : Int} (hS : SMok S) (h : 0 ≤ z ∧ z < 766) : stI S (mk R w rf) 68 (I z) (I x) F = F (mk (setR R 68 (updf (R 68) z x)) w rf) := stI_mk hS.2.2.2.1 h (by decide)
theorem gM17 {α : Type} {R : Nat → Int → Int} {w : Nat → Nat → Int64} {rf : Nat → Nat → Option Nat} {F : Nat → Option α} (hr : RMok rf) : gR (mk R w rf) 64 17 F = F 69 := gR_mk hr.2.2.2.2.1
theorem ldM69 {α : Type} {S : Nat → Nat × Nat} {R : Nat → Int → Int} {w : Nat → Nat → Int64} {rf : Nat → Nat → Option Nat} {F : Int32 → Option α} {z : Int} (hS : SMok S) (h : 0 ≤ z ∧ z < 312) : ldI S (mk R w rf) 69 (I z) F = F (I (R 69 z)) := ldI_mk hS.2.2.2.2.1 h (by decide)
theorem stM69 {α : Type} {S : Nat → Nat × Nat} {R : Nat → Int → Int} {w : Nat → Nat → Int64} {rf : Nat → Nat → Option Nat} {F : mm → Option α} {z x : Int} (hS : SMok S) (h : 0 ≤ z ∧ z < 312) : stI S (mk R w rf) 69 (I z) (I x) F = F (mk (setR R 69 (updf (R 69) z x)) w rf) := stI_mk hS.2.2.2.2.1 h (by decide)
theorem gM18 {α : Type} {R : Nat → Int → Int} {w : Nat → Nat → Int64} {rf : Nat → Nat → Option Nat} {F : Nat → Option α} (hr : RMok rf) : gR (mk R w rf) 64 18 F = F 70 := gR_mk hr.2.2.2.2.2.1
theorem ldM70 {α : Type} {S : Nat → Nat × Nat} {R : Nat → Int → Int} {w : Nat → Nat → Int64} {rf : Nat → Nat → Option Nat} {F : Int32 → Option α} {z : Int} (hS : SMok S) (h : 0 ≤ z ∧ z < 39) : ldI S (mk R w rf) 70 (I z) F = F (I (R 70 z)) := ldI_mk hS.2.2.2.2.2.1 h (by decide)
theorem stM70 {α : Type} {S : Nat → Nat × Nat} {R : Nat → Int → Int} {w : Nat → Nat → Int64} {rf : Nat → Nat → Option Nat} {F : mm → Option α} {z x : Int} (hS : SMok S) (h : 0 ≤ z ∧ z < 39) : stI S (mk R w rf) 70 (I z) (I x) F = F (mk (setR R 70 (updf (R 70) z x)) w rf) := stI_mk hS.2.2.2.2.2.1 h (by decide)
theorem gM19 {α : Type} {R : Nat → Int → Int} {w : Nat → Nat → Int64} {rf : Nat → Nat → Option Nat} {F : Nat → Option α} (hr : RMok rf) : gR (mk R w rf) 64 19 F = F 71 := gR_mk hr.2.2.2.2.2.2.1
theorem ldM71 {α : Type} {S : Nat → Nat × Nat} {R : Nat → Int → Int} {w : Nat → Nat → Int64} {rf : Nat → Nat → Option Nat} {F : Int64 → Option α} {z : Int} (hS : SMok S) (h : 0 ≤ z ∧ z < 18) : ldL S (mk R w rf) 71 (I z) F = F (w 71 z.toNat) := ldL_mk hS.2.2.2.2.2.2.1 h (by decide)
theorem stM71 {α : Type} {S : Nat → Nat × Nat} {R : Nat → Int → Int} {w : Nat → Nat → Int64} {rf : Nat → Nat → Option Nat} {F : mm → Option α} {z : Int} {x : Int64} (hS : SMok S) (h : 0 ≤ z ∧ z < 18) : stL S (mk R w rf) 71 (I z) x F = F (mk R (up2 w 71 z.toNat x) rf) := stL_mk hS.2.2.2.2.2.2.1 h (by decide)
theorem gM20 {α : Type} {R : Nat → Int → Int} {w : Nat → Nat → Int64} {rf : Nat → Nat → Option Nat} {F : Nat → Option α} (hr : RMok rf) : gR (mk R w rf) 64 20 F = F 72 := gR_mk hr.2.2.2.2.2.2.2.1
theorem ldM72 {α : Type} {S : Nat → Nat × Nat} {R : Nat → Int → Int} {w : Nat → Nat → Int64} {rf : Nat → Nat → Option Nat} {F : Int64 → Option α} {z : Int} (hS : SMok S) (h : 0 ≤ z ∧ z < 18) : ldL S (mk R w rf) 72 (I z) F = F (w 72 z.toNat) := ldL_mk hS.2.2.2.2.2.2.2.1 h (by decide)
theorem stM72 {α : Type} {S : Nat → Nat × Nat} {R : Nat → Int → Int} {w : Nat → Nat → Int64} {rf : Nat → Nat → Option Nat} {F : mm → Option α} {z : Int} {x : Int64} (hS : SMok S) (h : 0 ≤ z ∧ z < 18) : stL S (mk R w rf) 72 (I z) x F = F (mk R (up2 w 72 z.toNat x) rf) := stL_mk hS.2.2.2.2.2.2.2.1 h (by decide)
theorem gM21 {α : Type} {R : Nat → Int → Int} {w : Nat → Nat → Int64} {rf : Nat → Nat → Option Nat} {F : Nat → Option α} (hr : RMok rf) : gR (mk R w rf) 64 21 F = F 73 := gR_mk hr.2.2.2.2.2.2.2.2.1
theorem ldM73 {α : Type} {S : Nat → Nat × Nat} {R : Nat → Int → Int} {w : Nat → Nat → Int64} {rf : Nat → Nat → Option Nat} {F : Int64 → Option α} {z : Int} (hS : SMok S) (h : 0 ≤ z ∧ z < 36) : ldL S (mk R w rf) 73 (I z) F = F (w 73 z.toNat) := ldL_mk hS.2.2.2.2.2.2.2.2.1 h (by decide)
theorem stM73 {α : Type} {S : Nat → Nat × Nat} {R : Nat → Int → Int} {w : Nat → Nat → Int64} {rf : Nat → Nat → Option Nat} {F : mm → Option α} {z : Int} {x : Int64} (hS : SMok S) (h : 0 ≤ z ∧ z < 36) : stL S (mk R w rf) 73 (I z) x F = F (mk R (up2 w 73 z.toNat x) rf) := stL_mk hS.2.2.2.2.2.2.2.2.1 h (by decide)
theorem gM22 {α : Type} {R : Nat → Int → Int} {w : Nat → Nat → Int64} {rf : Nat → Nat → Option Nat} {F : Nat → Option α} (hr : RMok rf) : gR (mk R w rf) 64 22 F = F 74 := gR_mk hr.2.2.2.2.2.2.2.2.2.1
theorem ldM74 {α : Type} {S : Nat → Nat × Nat} {R : Nat → Int → Int} {w : Nat → Nat → Int64} {rf : Nat → Nat → Option Nat} {F : Int32 → Option α} {z : Int} (hS : SMok S) (h : 0 ≤ z ∧ z < 2) : ldI S (mk R w rf) 74 (I z) F = F (I (R 74 z)) := ldI_mk hS.2.2.2.2.2.2.2.2.2.1 h (by decide)
theorem stM74 {α : Type} {S : Nat → Nat × Nat} {R : Nat → Int → Int} {w : Nat → Nat → Int64} {rf : Nat → Nat → Option Nat} {F : mm → Option α} {z x : Int} (hS : SMok S) (h : 0 ≤ z ∧ z < 2) (hx : x = 0 ∨ x = 1) : stZ S (mk R w rf) 74 (I z) (I x) F = F (mk (setR R 74 (updf (R 74) z x)) w rf) := stZ_mk hS.2.2.2.2.2.2.2.2.2.1 h (by decide) hx
theorem gM25 {α : Type} {R : Nat → Int → Int} {w : Nat → Nat → Int64} {rf : Nat → Nat → Option Nat} {F : Nat → Option α} (hr : RMok rf) : gR (mk R w rf) 64 25 F = F 75 := gR_mk hr.2.2.2.2.2.2.2.2.2.2.1
theorem ldM75 {α : Type} {S : Nat → Nat × Nat} {R : Nat → Int → Int} {w : Nat → Nat → Int64} {rf : Nat → Nat → Option Nat} {F : Int32 → Option α} {z : Int} (hS : SMok S) (h : 0 ≤ z ∧ z < 4) : ldI S (mk R w rf) 75 (I z) F = F (I (R 75 z)) := ldI_mk hS.2.2.2.2.2.2.2.2.2.2.1 h (by decide)
theorem stM75 {α : Type} {S : Nat → Nat × Nat} {R : Nat → Int → Int} {w : Nat → Nat → Int64} {rf : Nat → Nat → Option Nat} {F : mm → Option α} {z x : Int} (hS : SMok S) (h : 0 ≤ z ∧ z < 4) : stI S (mk R w rf) 75 (I z) (I x) F = F (mk (setR R 75 (updf (R 75) z x)) w rf) := stI_mk hS.2.2.2.2.2.2.2.2.2.2.1 h (by decide)
theorem gM26 {α : Type} {R : Nat → Int → Int} {w : Nat → Nat → Int64} {rf : Nat → Nat → Option Nat} {F : Nat → Option α} (hr : RMok rf) : gR (mk R w rf) 64 26 F = F 76 := gR_mk hr.2.2.2.2.2.2.2.2.2.2.2.1
theorem ldM76 {α : Type} {S : Nat → Nat × Nat} {R : Nat → Int → Int} {w : Nat → Nat → Int64} {rf : Nat → Nat → Option Nat} {F : Int32 → Option α} {z : Int} (hS : SMok S) (h : 0 ≤ z ∧ z < 15921) : ldI S (mk R w rf) 76 (I z) F = F (I (R 76 z)) := ldI_mk hS.2.2.2.2.2.2.2.2.2.2.2.1 h (by decide)
theorem stM76 {α : Type} {S : Nat → Nat × Nat} {R : Nat → Int → Int} {w : Nat → Nat → Int64} {rf : Nat → Nat → Option Nat} {F : mm → Option α} {z x : Int} (hS : SMok S) (h : 0 ≤ z ∧ z < 15921) : stI S (mk R w rf) 76 (I z) (I x) F = F (mk (setR R 76 (updf (R 76) z x)) w rf) := stI_mk hS.2.2.2.2.2.2.2.2.2.2.2.1 h (by decide)
theorem gM27 {α : Type} {R : Nat → Int → Int} {w : Nat → Nat → Int64} {rf : Nat → Nat → Option Nat} {F : Nat → Option α} (hr : RMok rf) : gR (mk R w rf) 64 27 F = F 77 := gR_mk hr.2.2.2.2.2.2.2.2.2.2.2.2.1
theorem ldM77 {α : Type} {S : Nat → Nat × Nat} {R : Nat → Int → Int} {w : Nat → Nat → Int64} {rf : Nat → Nat → Option Nat} {F : Int32 → Option α} {z : Int} (hS : SMok S) (h : 0 ≤ z ∧ z < 60) : ldI S (mk R w rf) 77 (I z) F = F (I (R 77 z)) := ldI_mk hS.2.2.2.2.2.2.2.2.2.2.2.2.1 h (by decide)
theorem stM77 {α : Type} {S : Nat → Nat × Nat} {R : Nat → Int → Int} {w : Nat → Nat → Int64} {rf : Nat → Nat → Option Nat} {F : mm → Option α} {z x : Int} (hS : SMok S) (h : 0 ≤ z ∧ z < 60) : stI S (mk R w rf) 77 (I z) (I x) F = F (mk (setR R 77 (updf (R 77) z x)) w rf) := stI_mk hS.2.2.2.2.2.2.2.2.2.2.2.2.1 h (by decide)
theorem gM31 {α : Type} {R : Nat → Int → Int} {w : Nat → Nat → Int64} {rf : Nat → Nat → Option Nat} {F : Nat → Option α} (hr : RMok rf) : gR (mk R w rf) 64 31 F = F 78 := gR_mk hr.2.2.2.2.2.2.2.2.2.2.2.2.2.1
theorem ldM78 {α : Type} {S : Nat → Nat × Nat} {R : Nat → Int → Int} {w : Nat → Nat → Int64} {rf : Nat → Nat → Option Nat} {F : Int32 → Option α} {z : Int} (hS : SMok S) (h : 0 ≤ z ∧ z < 64) : ldI S (mk R w rf) 78 (I z) F = F (I (R 78 z)) := ldI_mk hS.2.2.2.2.2.2.2.2.2.2.2.2.2.1 h (by decide)
theorem stM78 {α : Type} {S : Nat → Nat × Nat} {R : Nat → Int → Int} {w : Nat → Nat → Int64} {rf : Nat → Nat → Option Nat} {F : mm → Option α} {z x : Int} (hS : SMok S) (h : 0 ≤ z ∧ z < 64) : stI S (mk R w rf) 78 (I z) (I x) F = F (mk (setR R 78 (updf (R 78) z x)) w rf) := stI_mk hS.2.2.2.2.2.2.2.2.2.2.2.2.2.1 h (by decide)
theorem gM34 {α : Type} {R : Nat → Int → Int} {w : Nat → Nat → Int64} {rf : Nat → Nat → Option Nat} {F : Nat → Option α} (hr : RMok rf) : gR (mk R w rf) 64 34 F = F 79 := gR_mk hr.2.2.2.2.2.2.2.2.2.2.2.2.2.2.1
theorem ldM79 {α : Type} {S : Nat → Nat × Nat} {R : Nat → Int → Int} {w : Nat → Nat → Int64} {rf : Nat → Nat → Option Nat} {F : Int32 → Option α} {z : Int} (hS : SMok S) (h : 0 ≤ z ∧ z < 120) : ldI S (mk R w rf) 79 (I z) F = F (I (R 79 z)) := ldI_mk hS.2.2.2.2.2.2.2.2.2.2.2.2.2.2.1 h (by decide)
theorem stM79 {α : Type} {S : Nat → Nat × Nat} {R : Nat → Int → Int} {w : Nat → Nat → Int64} {rf : Nat → Nat → Option Nat} {F : mm → Option α} {z x : Int} (hS : SMok S) (h : 0 ≤ z ∧ z < 120) : stI S (mk R w rf) 79 (I z) (I x) F = F (mk (setR R 79 (updf (R 79) z x)) w rf) := stI_mk hS.2.2.2.2.2.2.2.2.2.2.2.2.2.2.1 h (by decide)
theorem gM35 {α : Type} {R : Nat → Int → Int} {w : Nat → Nat → Int64} {rf : Nat → Nat → Option Nat} {F : Nat → Option α} (hr : RMok rf) : gR (mk R w rf) 64 35 F = F 80 := gR_mk hr.2.2.2.2.2.2.2.2.2.2.2.2.2.2.2.1
theorem ldM80 {α : Type} {S : Nat → Nat × Nat} {R : Nat → Int → Int} {w : Nat → Nat → Int64} {rf : Nat → Nat → Option Nat} {F : Int32 → Option α} {z : Int} (hS : SMok S) (h : 0 ≤ z ∧ z < 4) : ldI S (mk R w rf) 80 (I z) F = F (I (R 80 z)) := ldI_mk hS.2.2.2.2.2.2.2.2.2.2.2.2.2.2.2.1 h (by decide)
theorem stM80 {α : Type} {S : Nat → Nat × Nat} {R : Nat → Int → Int} {w : Nat → Nat → Int64} {rf : Nat → Nat → Option Nat} {F : mm → Option α} {z x : Int} (hS : SMok S) (h : 0 ≤ z ∧ z < 4) : stI S (mk R w rf) 80 (I z) (I x) F = F (mk (setR R 80 (updf (R 80) z x)) w rf) := stI_mk hS.2.2.2.2.2.2.2.2.2.2.2.2.2.2.2.1 h (by decide)
theorem gM38 {α : Type} {R : Nat → Int → Int} {w : Nat → Nat → Int64} {rf : Nat → Nat → Option Nat} {F : Nat → Option α} (hr : RMok rf) : gR (mk R w rf) 64 38 F = F 81 := gR_mk hr.2.2.2.2.2.2.2.2.2.2.2.2.2.2.2.2
theorem ldM81 {α : Type} {S : Nat → Nat × Nat} {R : Nat → Int → Int} {w : Nat → Nat → Int64} {rf : Nat → Nat → Option Nat} {F : Int32 → Option α} {z : Int} (hS : SMok S) (h : 0 ≤ z ∧ z < 240) : ldI S (mk R w rf) 81 (I z) F = F (I (R 81 z)) := ldI_mk hS.2.2.2.2.2.2.2.2.2.2.2.2.2.2.2.2 h (by decide)
theorem stM81 {α : Type} {S : Nat → Nat × Nat} {R : Nat → Int → Int} {w : Nat → Nat → Int64} {rf : Nat → Nat → Option Nat} {F : mm → Option α} {z x : Int} (hS : SMok S) (h : 0 ≤ z ∧ z < 240) : stI S (mk R w rf) 81 (I z) (I x) F = F (mk (setR R 81 (updf (R 81) z x)) w rf) := stI_mk hS.2.2.2.2.2.2.2.2.2.2.2.2.2.2.2.2 h (by decide)
def isPar (x : Nat) : Prop := x = 67 ∨ x = 85 ∨ x = 211 ∨ x = 241
def isLife (l : Nat) : Prop := l = 104 ∨ l = 112 ∨ l = 122 ∨ l = 130 ∨ l = 138 ∨ l = 146 ∨ l = 154 ∨ l = 162 ∨ l = 170 ∨ l = 178 ∨ l = 229 ∨ l = 259
theorem isPar67 : isPar 67 := by unfold isPar; omega
theorem isPar85 : isPar 85 := by unfold isPar; omega
theorem isPar211 : isPar 211 := by unfold isPar; omega
theorem isPar241 : isPar 241 := by unfold isPar; omega
theorem isLife104 : isLife 104 := by unfold isLife; omega
theorem isLife112 : isLife 112 := by unfold isLife; omega
theorem isLife122 : isLife 122 := by unfold isLife; omega
theorem isLife130 : isLife 130 := by unfold isLife; omega
theorem isLife138 : isLife 138 := by unfold isLife; omega
theorem isLife146 : isLife 146 := by unfold isLife; omega
theorem isLife154 : isLife 154 := by unfold isLife; omega
theorem isLife162 : isLife 162 := by unfold isLife; omega
theorem isLife170 : isLife 170 := by unfold isLife; omega
theorem isLife178 : isLife 178 := by unfold isLife; omega
theorem isLife229 : isLife 229 := by unfold isLife; omega
theorem isLife259 : isLife 259 := by unfold isLife; omega
def SCok (S : Nat → Nat × Nat) : Prop := (∀ x, isPar x → (S (x + 1)).2 = 8 ∧ (S (x + 2)).2 = 8 ∧ (S (x + 3)).2 = 8 ∧ (S (x + 4)).2 = 8 ∧ (S (x + 5)).2 = 8 ∧ (S (x + 6)).2 = 8 ∧ (S (x + 7)).2 = 4 ∧ (S (x + 8)).2 = 4 ∧ (S (x + 9)).2 = 4 ∧ (S (x + 10)).2 = 4 ∧ (S (x + 11)).2 = 4 ∧ (S (x + 12)).2 = 12 ∧ (S (x + 14)).2 = 6 ∧ (S (x + 15)).2 = 6 ∧ (S (x + 16)).2 = 6 ∧ (S (x + 17)).2 = 6) ∧ (∀ l, isLife l → (S (l + 1)).2 = 8 ∧ (S (l + 2)).2 = 8 ∧ (S (l + 3)).2 = 4 ∧ (S (l + 4)).2 = 4 ∧ (S (l + 5)).2 = 4 ∧ (S (l + 6)).2 = 4 ∧ (S (l + 7)).2 = 4) ∧ (S 66).2 = 940 ∧ (S 187).2 = 600 ∧ (S 188).2 = 600 ∧ (S 190).2 = 540 ∧ (S 191).2 = 60 ∧ (S 192).2 = 60 ∧ (S 194).2 = 40 ∧ (S 195).2 = 40 ∧ (S 196).2 = 40 ∧ (S 198).2 = 40 ∧ (S 199).2 = 40 ∧ (S 200).2 = 40 ∧ (S 202).2 = 40 ∧ (S 203).2 = 40 ∧ (S 204).2 = 40 ∧ (S 205).2 = 2 ∧ (S 206).2 = 2 ∧ (S 207).2 = 2 ∧ (S 208).2 = 2 ∧ (S 238).2 = 40 ∧ (S 239).2 = 40 ∧ (S 240).2 = 40 ∧ (S 268).2 = 40 ∧ (S 269).2 = 40 ∧ (S 270).2 = 40 ∧ (S 121).2 = 8
def RCok (rf : Nat → Nat → Option Nat) : Prop := (∀ x, isPar x → rf (x) 0 = some (x + 1) ∧ rf (x) 1 = some (x + 2) ∧ rf (x) 2 = some (x + 3) ∧ rf (x) 3 = some (x + 4) ∧ rf (x) 4 = some (x + 5) ∧ rf (x) 5 = some (x + 6) ∧ rf (x) 7 = some (x + 7) ∧ rf (x) 8 = some (x + 8) ∧ rf (x) 9 = some (x + 9) ∧ rf (x) 10 = some (x + 10) ∧ rf (x) 11 = some (x + 11) ∧ rf (x) 13 = some (x + 12) ∧ rf (x) 15 = some (x + 13) ∧ rf (x + 13) 0 = some (x + 14) ∧ rf (x + 13) 1 = some (x + 15) ∧ rf (x + 13) 2 = some (x + 16) ∧ rf (x + 13) 3 = some (x + 17)) ∧ (∀ l, isLife l → rf l 0 = some 67 ∧ rf l 4 = some (l + 1) ∧ rf l 5 = some (l + 2) ∧ rf l 6 = some (l + 3) ∧ rf l 7 = some (l + 4) ∧ rf l 8 = some (l + 5) ∧ rf l 9 = some (l + 6) ∧ rf l 10 = some (l + 7)) ∧ rf 64 0 = some 65 ∧ rf 64 1 = some 67 ∧ rf 64 2 = some 85 ∧ rf 64 3 = some 103 ∧ rf 64 4 = some 104 ∧ rf 64 5 = some 112 ∧ rf 64 6 = some 120 ∧ rf 64 7 = some 186 ∧ rf 64 8 = some 189 ∧ rf 64 9 = some 193 ∧ rf 64 10 = some 197 ∧ rf 64 11 = some 201 ∧ rf 64 12 = some 205 ∧ rf 64 13 = some 206 ∧ rf 64 14 = some 207 ∧ rf 64 15 = some 208 ∧ rf 65 0 = some 66 ∧ rf 103 0 = some 65 ∧ rf 103 1 = some 85 ∧ rf 120 0 = some 121 ∧ rf 186 0 = some 67 ∧ rf 186 1 = some 104 ∧ rf 186 2 = some 187 ∧ rf 186 3 = some 188 ∧ rf 189 0 = some 186 ∧ rf 189 1 = some 190 ∧ rf 189 2 = some 191 ∧ rf 189 3 = some 192 ∧ rf 193 0 = some 65 ∧ rf 193 1 = some 67 ∧ rf 193 2 = some 194 ∧ rf 193 3 = some 195 ∧ rf 193 4 = some 196 ∧ rf 197 0 = some 198 ∧ rf 197 1 = some 199 ∧ rf 197 2 = some 200 ∧ rf 201 0 = some 202 ∧ rf 201 1 = some 203 ∧ rf 201 2 = some 204 ∧ rf 205 0 = some 211 ∧ rf 205 1 = some 241 ∧ rf 206 0 = some 229 ∧ rf 206 1 = some 259 ∧ rf 207 0 = some 237 ∧ rf 207 1 = some 267 ∧ rf 237 0 = some 238 ∧ rf 237 1 = some 239 ∧ rf 237 2 = some 240 ∧ rf 267 0 = some 268 ∧ rf 267 1 = some 269 ∧ rf 267 2 = some 270 ∧ rf 64 16 = some 209
theorem gP0_0 {α : Type} {Q : Nat → Int → Int} {w : Nat → Nat → Int64} {rf : Nat → Nat → Option Nat} {F : Nat → Option α} {x : Nat} (hr : RCok rf) (hx : isPar x) : gR (mk Q w rf) (x) 0 F = F (x + 1) := gR_mk (hr.1 x hx).1
theorem gP0_1 {α : Type} {Q : Nat → Int → Int} {w : Nat → Nat → Int64} {rf : Nat → Nat → Option Nat} {F : Nat → Option α} {x : Nat} (hr : RCok rf) (hx : isPar x) : gR (mk Q w rf) (x) 1 F = F (x + 2) := gR_mk (hr.1 x hx).2.1
theorem gP0_2 {α : Type} {Q : Nat → Int → Int} {w : Nat → Nat → Int64} {rf : Nat → Nat → Option Nat} {F : Nat → Option α} {x : Nat} (hr : RCok rf) (hx : isPar x) : gR (mk Q w rf) (x) 2 F = F (x + 3) := gR_mk (hr.1 x hx).2.2.1
theorem gP0_3 {α : Type} {Q : Nat → Int → Int} {w : Nat → Nat → Int64} {rf : Nat → Nat → Option Nat} {F : Nat → Option α} {x : Nat} (hr : RCok rf) (hx : isPar x) : gR (mk Q w rf) (x) 3 F = F (x + 4) := gR_mk (hr.1 x hx).2.2.2.1
theorem gP0_4 {α : Type} {Q : Nat → Int → Int} {w : Nat → Nat → Int64} {rf : Nat → Nat → Option Nat} {F : Nat → Option α} {x : Nat} (hr : RCok rf) (hx : isPar x) : gR (mk Q w rf) (x) 4 F = F (x + 5) := gR_mk (hr.1 x hx).2.2.2.2.1
theorem gP0_5 {α : Type} {Q : Nat → Int → Int} {w : Nat → Nat → Int64} {rf : Nat → Nat → Option Nat} {F : Nat → Option α} {x : Nat} (hr : RCok rf) (hx : isPar x) : gR (mk Q w rf) (x) 5 F = F (x + 6) := gR_mk (hr.1 x hx).2.2.2.2.2.1
theorem gP0_7 {α : Type} {Q : Nat → Int → Int} {w : Nat → Nat → Int64} {rf : Nat → Nat → Option Nat} {F : Nat → Option α} {x : Nat} (hr : RCok rf) (hx : isPar x) : gR (mk Q w rf) (x) 7 F = F (x + 7) := gR_mk (hr.1 x hx).2.2.2.2.2.2.1
theorem gP0_8 {α : Type} {Q : Nat → Int → Int} {w : Nat → Nat → Int64} {rf : Nat → Nat → Option Nat} {F : Nat → Option α} {x : Nat} (hr : RCok rf) (hx : isPar x) : gR (mk Q w rf) (x) 8 F = F (x + 8) := gR_mk (hr.1 x hx).2.2.2.2.2.2.2.1
theorem gP0_9 {α : Type} {Q : Nat → Int → Int} {w : Nat → Nat → Int64} {rf : Nat → Nat → Option Nat} {F : Nat → Option α} {x : Nat} (hr : RCok rf) (hx : isPar x) : gR (mk Q w rf) (x) 9 F = F (x + 9) := gR_mk (hr.1 x hx).2.2.2.2.2.2.2.2.1
theorem gP0_10 {α : Type} {Q : Nat → Int → Int} {w : Nat → Nat → Int64} {rf : Nat → Nat → Option Nat} {F : Nat → Option α} {x : Nat} (hr : RCok rf) (hx : isPar x) : gR (mk Q w rf) (x) 10 F = F (x + 10) := gR_mk (hr.1 x hx).2.2.2.2.2.2.2.2.2.1
theorem gP0_11 {α : Type} {Q : Nat → Int → Int} {w : Nat → Nat → Int64} {rf : Nat → Nat → Option Nat} {F : Nat → Option α} {x : Nat} (hr : RCok rf) (hx : isPar x) : gR (mk Q w rf) (x) 11 F = F (x + 11) := gR_mk (hr.1 x hx).2.2.2.2.2.2.2.2.2.2.1
theorem gP0_13 {α : Type} {Q : Nat → Int → Int} {w : Nat → Nat → Int64} {rf : Nat → Nat → Option Nat} {F : Nat → Option α} {x : Nat} (hr : RCok rf) (hx : isPar x) : gR (mk Q w rf) (x) 13 F = F (x + 12) := gR_mk (hr.1 x hx).2.2.2.2.2.2.2.2.2.2.2.1
theorem gP0_15 {α : Type} {Q : Nat → Int → Int} {w : Nat → Nat → Int64} {rf : Nat → Nat → Option Nat} {F : Nat → Option α} {x : Nat} (hr : RCok rf) (hx : isPar x) : gR (mk Q w rf) (x) 15 F = F (x + 13) := gR_mk (hr.1 x hx).2.2.2.2.2.2.2.2.2.2.2.2.1
theorem gP13_0 {α : Type} {Q : Nat → Int → Int} {w : Nat → Nat → Int64} {rf : Nat → Nat → Option Nat} {F : Nat → Option α} {x : Nat} (hr : RCok rf) (hx : isPar x) : gR (mk Q w rf) (x + 13) 0 F = F (x + 14) := gR_mk (hr.1 x hx).2.2.2.2.2.2.2.2.2.2.2.2.2.1
theorem gP13_1 {α : Type} {Q : Nat → Int → Int} {w : Nat → Nat → Int64} {rf : Nat → Nat → Option Nat} {F : Nat → Option α} {x : Nat} (hr : RCok rf) (hx : isPar x) : gR (mk Q w rf) (x + 13) 1 F = F (x + 15) := gR_mk (hr.1 x hx).2.2.2.2.2.2.2.2.2.2.2.2.2.2.1
theorem gP13_2 {α : Type} {Q : Nat → Int → Int} {w : Nat → Nat → Int64} {rf : Nat → Nat → Option Nat} {F : Nat → Option α} {x : Nat} (hr : RCok rf) (hx : isPar x) : gR (mk Q w rf) (x + 13) 2 F = F (x + 16) := gR_mk (hr.1 x hx).2.2.2.2.2.2.2.2.2.2.2.2.2.2.2.1
theorem gP13_3 {α : Type} {Q : Nat → Int → Int} {w : Nat → Nat → Int64} {rf : Nat → Nat → Option Nat} {F : Nat → Option α} {x : Nat} (hr : RCok rf) (hx : isPar x) : gR (mk Q w rf) (x + 13) 3 F = F (x + 17) := gR_mk (hr.1 x hx).2.2.2.2.2.2.2.2.2.2.2.2.2.2.2.2
theorem ldP1 {α : Type} {S : Nat → Nat × Nat} {Q : Nat → Int → Int} {w : Nat → Nat → Int64} {rf : Nat → Nat → Option Nat} {F : Int64 → Option α} {x : Nat} {z : Int} (hS : SCok S) (hx : isPar x) (h : 0 ≤ z ∧ z < 8) : ldL S (mk Q w rf) (x + 1) (I z) F = F (w (x + 1) z.toNat) := ldL_mk (hS.1 x hx).1 h (by decide)
theorem stP1 {α : Type} {S : Nat → Nat × Nat} {Q : Nat → Int → Int} {w : Nat → Nat → Int64} {rf : Nat → Nat → Option Nat} {F : mm → Option α} {x : Nat} {z : Int} {y : Int64} (hS : SCok S) (hx : isPar x) (h : 0 ≤ z ∧ z < 8) : stL S (mk Q w rf) (x + 1) (I z) y F = F (mk Q (up2 w (x + 1) z.toNat y) rf) := stL_mk (hS.1 x hx).1 h (by decide)
theorem ldP2 {α : Type} {S : Nat → Nat × Nat} {Q : Nat → Int → Int} {w : Nat → Nat → Int64} {rf : Nat → Nat → Option Nat} {F : Int32 → Option α} {x : Nat} {z : Int} (hS : SCok S) (hx : isPar x) (h : 0 ≤ z ∧ z < 8) : ldI S (mk Q w rf) (x + 2) (I z) F = F (I (Q (x + 2) z)) := ldI_mk (hS.1 x hx).2.1 h (by decide)
theorem stP2 {α : Type} {S : Nat → Nat × Nat} {Q : Nat → Int → Int} {w : Nat → Nat → Int64} {rf : Nat → Nat → Option Nat} {F : mm → Option α} {x : Nat} {z y : Int} (hS : SCok S) (hx : isPar x) (h : 0 ≤ z ∧ z < 8) : stI S (mk Q w rf) (x + 2) (I z) (I y) F = F (mk (setR Q (x + 2) (updf (Q (x + 2)) z y)) w rf) := stI_mk (hS.1 x hx).2.1 h (by decide)
theorem ldP3 {α : Type} {S : Nat → Nat × Nat} {Q : Nat → Int → Int} {w : Nat → Nat → Int64} {rf : Nat → Nat → Option Nat} {F : Int32 → Option α} {x : Nat} {z : Int} (hS : SCok S) (hx : isPar x) (h : 0 ≤ z ∧ z < 8) : ldI S (mk Q w rf) (x + 3) (I z) F = F (I (Q (x + 3) z)) := ldI_mk (hS.1 x hx).2.2.1 h (by decide)
theorem stP3 {α : Type} {S : Nat → Nat × Nat} {Q : Nat → Int → Int} {w : Nat → Nat → Int64} {rf : Nat → Nat → Option Nat} {F : mm → Option α} {x : Nat} {z y : Int} (hS : SCok S) (hx : isPar x) (h : 0 ≤ z ∧ z < 8) : stI S (mk Q w rf) (x + 3) (I z) (I y) F = F (mk (setR Q (x + 3) (updf (Q (x + 3)) z y)) w rf) := stI_mk (hS.1 x hx).2.2.1 h (by decide)
theorem ldP4 {α : Type} {S : Nat → Nat × Nat} {Q : Nat → Int → Int} {w : Nat → Nat → Int64} {rf : Nat → Nat → Option Nat} {F : Int32 → Option α} {x : Nat} {z : Int} (hS : SCok S) (hx : isPar x) (h : 0 ≤ z ∧ z < 8) : ldI S (mk Q w rf) (x + 4) (I z) F = F (I (Q (x + 4) z)) := ldI_mk (hS.1 x hx).2.2.2.1 h (by decide)
theorem stP4 {α : Type} {S : Nat → Nat × Nat} {Q : Nat → Int → Int} {w : Nat → Nat → Int64} {rf : Nat → Nat → Option Nat} {F : mm → Option α} {x : Nat} {z y : Int} (hS : SCok S) (hx : isPar x) (h : 0 ≤ z ∧ z < 8) : stI S (mk Q w rf) (x + 4) (I z) (I y) F = F (mk (setR Q (x + 4) (updf (Q (x + 4)) z y)) w rf) := stI_mk (hS.1 x hx).2.2.2.1 h (by decide)
theorem ldP5 {α : Type} {S : Nat → Nat × Nat} {Q : Nat → Int → Int} {w : Nat → Nat → Int64} {rf : Nat → Nat → Option Nat} {F : Int32 → Option α} {x : Nat} {z : Int} (hS : SCok S) (hx : isPar x) (h : 0 ≤ z ∧ z < 8) : ldI S (mk Q w rf) (x + 5) (I z) F = F (I (Q (x + 5) z)) := ldI_mk (hS.1 x hx).2.2.2.2.1 h (by decide)
theorem stP5 {α : Type} {S : Nat → Nat × Nat} {Q : Nat → Int → Int} {w : Nat → Nat → Int64} {rf : Nat → Nat → Option Nat} {F : mm → Option α} {x : Nat} {z y : Int} (hS : SCok S) (hx : isPar x) (h : 0 ≤ z ∧ z < 8) : stI S (mk Q w rf) (x + 5) (I z) (I y) F = F (mk (setR Q (x + 5) (updf (Q (x + 5)) z y)) w rf) := stI_mk (hS.1 x hx).2.2.2.2.1 h (by decide)
theorem ldP6 {α : Type} {S : Nat → Nat × Nat} {Q : Nat → Int → Int} {w : Nat → Nat → Int64} {rf : Nat → Nat → Option Nat} {F : Int32 → Option α} {x : Nat} {z : Int} (hS : SCok S) (hx : isPar x) (h : 0 ≤ z ∧ z < 8) : ldI S (mk Q w rf) (x + 6) (I z) F = F (I (Q (x + 6) z)) := ldI_mk (hS.1 x hx).2.2.2.2.2.1 h (by decide)
theorem stP6 {α : Type} {S : Nat → Nat × Nat} {Q : Nat → Int → Int} {w : Nat → Nat → Int64} {rf : Nat → Nat → Option Nat} {F : mm → Option α} {x : Nat} {z y : Int} (hS : SCok S) (hx : isPar x) (h : 0 ≤ z ∧ z < 8) : stI S (mk Q w rf) (x + 6) (I z) (I y) F = F (mk (setR Q (x + 6) (updf (Q (x + 6)) z y)) w rf) := stI_mk (hS.1 x hx).2.2.2.2.2.1 h (by decide)
theorem ldP7 {α : Type} {S : Nat → Nat × Nat} {Q : Nat → Int → Int} {w : Nat → Nat → Int64} {rf : Nat → Nat → Option Nat} {F : Int64 → Option α} {x : Nat} {z : Int} (hS : SCok S) (hx : isPar x) (h : 0 ≤ z ∧ z < 4) : ldL S (mk Q w rf) (x + 7) (I z) F = F (w (x + 7) z.toNat) := ldL_mk (hS.1 x hx).2.2.2.2.2.2.1 h (by decide)
theorem stP7 {α : Type} {S : Nat → Nat × Nat} {Q : Nat → Int → Int} {w : Nat → Nat → Int64} {rf : Nat → Nat → Option Nat} {F : mm → Option α} {x : Nat} {z : Int} {y : Int64} (hS : SCok S) (hx : isPar x) (h : 0 ≤ z ∧ z < 4) : stL S (mk Q w rf) (x + 7) (I z) y F = F (mk Q (up2 w (x + 7) z.toNat y) rf) := stL_mk (hS.1 x hx).2.2.2.2.2.2.1 h (by decide)
theorem ldP8 {α : Type} {S : Nat → Nat × Nat} {Q : Nat → Int → Int} {w : Nat → Nat → Int64} {rf : Nat → Nat → Option Nat} {F : Int32 → Option α} {x : Nat} {z : Int} (hS : SCok S) (hx : isPar x) (h : 0 ≤ z ∧ z < 4) : ldI S (mk Q w rf) (x + 8) (I z) F = F (I (Q (x + 8) z)) := ldI_mk (hS.1 x hx).2.2.2.2.2.2.2.1 h (by decide)
theorem stP8 {α : Type} {S : Nat → Nat × Nat} {Q : Nat → Int → Int} {w : Nat → Nat → Int64} {rf : Nat → Nat → Option Nat} {F : mm → Option α} {x : Nat} {z y : Int} (hS : SCok S) (hx : isPar x) (h : 0 ≤ z ∧ z < 4) : stI S (mk Q w rf) (x + 8) (I z) (I y) F = F (mk (setR Q (x + 8) (updf (Q (x + 8)) z y)) w rf) := stI_mk (hS.1 x hx).2.2.2.2.2.2.2.1 h (by decide)
theorem ldP9 {α : Type} {S : Nat → Nat × Nat} {Q : Nat → Int → Int} {w : Nat → Nat → Int64} {rf : Nat → Nat → Option Nat} {F : Int32 → Option α} {x : Nat} {z : Int} (hS : SCok S) (hx : isPar x) (h : 0 ≤ z ∧ z < 4) : ldI S (mk Q w rf) (x + 9) (I z) F = F (I (Q (x + 9) z)) := ldI_mk (hS.1 x hx).2.2.2.2.2.2.2.2.1 h (by decide)
theorem stP9 {α : Type} {S : Nat → Nat × Nat} {Q : Nat → Int → Int} {w : Nat → Nat → Int64} {rf : Nat → Nat → Option Nat} {F : mm → Option α} {x : Nat} {z y : Int} (hS : SCok S) (hx : isPar x) (h : 0 ≤ z ∧ z < 4) : stI S (mk Q w rf) (x + 9) (I z) (I y) F = F (mk (setR Q (x + 9) (updf (Q (x + 9)) z y)) w rf) := stI_mk (hS.1 x hx).2.2.2.2.2.2.2.2.1 h (by decide)
theorem ldP10 {α : Type} {S : Nat → Nat × Nat} {Q : Nat → Int → Int} {w : Nat → Nat → Int64} {rf : Nat → Nat → Option Nat} {F : Int32 → Option α} {x : Nat} {z : Int} (hS : SCok S) (hx : isPar x) (h : 0 ≤ z ∧ z < 4) : ldI S (mk Q w rf) (x + 10) (I z) F = F (I (Q (x + 10) z)) := ldI_mk (hS.1 x hx).2.2.2.2.2.2.2.2.2.1 h (by decide)
theorem stP10 {α : Type} {S : Nat → Nat × Nat} {Q : Nat → Int → Int} {w : Nat → Nat → Int64} {rf : Nat → Nat → Option Nat} {F : mm → Option α} {x : Nat} {z y : Int} (hS : SCok S) (hx : isPar x) (h : 0 ≤ z ∧ z < 4) : stI S (mk Q w rf) (x + 10) (I z) (I y) F = F (mk (setR Q (x + 10) (updf (Q (x + 10)) z y)) w rf) := stI_mk (hS.1 x hx).2.2.2.2.2.2.2.2.2.1 h (by decide)
theorem ldP11 {α : Type} {S : Nat → Nat × Nat} {Q : Nat → Int → Int} {w : Nat → Nat → Int64} {rf : Nat → Nat → Option Nat} {F : Int32 → Option α} {x : Nat} {z : Int} (hS : SCok S) (hx : isPar x) (h : 0 ≤ z ∧ z < 4) : ldI S (mk Q w rf) (x + 11) (I z) F = F (I (Q (x + 11) z)) := ldI_mk (hS.1 x hx).2.2.2.2.2.2.2.2.2.2.1 h (by decide)
theorem stP11 {α : Type} {S : Nat → Nat × Nat} {Q : Nat → Int → Int} {w : Nat → Nat → Int64} {rf : Nat → Nat → Option Nat} {F : mm → Option α} {x : Nat} {z y : Int} (hS : SCok S) (hx : isPar x) (h : 0 ≤ z ∧ z < 4) : stI S (mk Q w rf) (x + 11) (I z) (I y) F = F (mk (setR Q (x + 11) (updf (Q (x + 11)) z y)) w rf) := stI_mk (hS.1 x hx).2.2.2.2.2.2.2.2.2.2.1 h (by decide)
theorem ldP12 {α : Type} {S : Nat → Nat × Nat} {Q : Nat → Int → Int} {w : Nat → Nat → Int64} {rf : Nat → Nat → Option Nat} {F : Int32 → Option α} {x : Nat} {z : Int} (hS : SCok S) (hx : isPar x) (h : 0 ≤ z ∧ z < 12) : ldI S (mk Q w rf) (x + 12) (I z) F = F (I (Q (x + 12) z)) := ldI_mk (hS.1 x hx).2.2.2.2.2.2.2.2.2.2.2.1 h (by decide)
theorem stP12 {α : Type} {S : Nat → Nat × Nat} {Q : Nat → Int → Int} {w : Nat → Nat → Int64} {rf : Nat → Nat → Option Nat} {F : mm → Option α} {x : Nat} {z y : Int} (hS : SCok S) (hx : isPar x) (h : 0 ≤ z ∧ z < 12) : stI S (mk Q w rf) (x + 12) (I z) (I y) F = F (mk (setR Q (x + 12) (updf (Q (x + 12)) z y)) w rf) := stI_mk (hS.1 x hx).2.2.2.2.2.2.2.2.2.2.2.1 h (by decide)
theorem ldP14 {α : Type} {S : Nat → Nat × Nat} {Q : Nat → Int → Int} {w : Nat → Nat → Int64} {rf : Nat → Nat → Option Nat} {F : Int64 → Option α} {x : Nat} {z : Int} (hS : SCok S) (hx : isPar x) (h : 0 ≤ z ∧ z < 6) : ldL S (mk Q w rf) (x + 14) (I z) F = F (w (x + 14) z.toNat) := ldL_mk (hS.1 x hx).2.2.2.2.2.2.2.2.2.2.2.2.1 h (by decide)
theorem stP14 {α : Type} {S : Nat → Nat × Nat} {Q : Nat → Int → Int} {w : Nat → Nat → Int64} {rf : Nat → Nat → Option Nat} {F : mm → Option α} {x : Nat} {z : Int} {y : Int64} (hS : SCok S) (hx : isPar x) (h : 0 ≤ z ∧ z < 6) : stL S (mk Q w rf) (x + 14) (I z) y F = F (mk Q (up2 w (x + 14) z.toNat y) rf) := stL_mk (hS.1 x hx).2.2.2.2.2.2.2.2.2.2.2.2.1 h (by decide)
theorem ldP15 {α : Type} {S : Nat → Nat × Nat} {Q : Nat → Int → Int} {w : Nat → Nat → Int64} {rf : Nat → Nat → Option Nat} {F : Int32 → Option α} {x : Nat} {z : Int} (hS : SCok S) (hx : isPar x) (h : 0 ≤ z ∧ z < 6) : ldI S (mk Q w rf) (x + 15) (I z) F = F (I (Q (x + 15) z)) := ldI_mk (hS.1 x hx).2.2.2.2.2.2.2.2.2.2.2.2.2.1 h (by decide)
theorem stP15 {α : Type} {S : Nat → Nat × Nat} {Q : Nat → Int → Int} {w : Nat → Nat → Int64} {rf : Nat → Nat → Option Nat} {F : mm → Option α} {x : Nat} {z y : Int} (hS : SCok S) (hx : isPar x) (h : 0 ≤ z ∧ z < 6) : stI S (mk Q w rf) (x + 15) (I z) (I y) F = F (mk (setR Q (x + 15) (updf (Q (x + 15)) z y)) w rf) := stI_mk (hS.1 x hx).2.2.2.2.2.2.2.2.2.2.2.2.2.1 h (by decide)
theorem ldP16 {α : Type} {S : Nat → Nat × Nat} {Q : Nat → Int → Int} {w : Nat → Nat → Int64} {rf : Nat → Nat → Option Nat} {F : Int32 → Option α} {x : Nat} {z : Int} (hS : SCok S) (hx : isPar x) (h : 0 ≤ z ∧ z < 6) : ldI S (mk Q w rf) (x + 16) (I z) F = F (I (Q (x + 16) z)) := ldI_mk (hS.1 x hx).2.2.2.2.2.2.2.2.2.2.2.2.2.2.1 h (by decide)
theorem stP16 {α : Type} {S : Nat → Nat × Nat} {Q : Nat → Int → Int} {w : Nat → Nat → Int64} {rf : Nat → Nat → Option Nat} {F : mm → Option α} {x : Nat} {z y : Int} (hS : SCok S) (hx : isPar x) (h : 0 ≤ z ∧ z < 6) : stI S (mk Q w rf) (x + 16) (I z) (I y) F = F (mk (setR Q (x + 16) (updf (Q (x + 16)) z y)) w rf) := stI_mk (hS.1 x hx).2.2.2.2.2.2.2.2.2.2.2.2.2.2.1 h (by decide)
theorem ldP17 {α : Type} {S : Nat → Nat × Nat} {Q : Nat → Int → Int} {w : Nat → Nat → Int64} {rf : Nat → Nat → Option Nat} {F : Int32 → Option α} {x : Nat} {z : Int} (hS : SCok S) (hx : isPar x) (h : 0 ≤ z ∧ z < 6) : ldI S (mk Q w rf) (x + 17) (I z) F = F (I (Q (x + 17) z)) := ldI_mk (hS.1 x hx).2.2.2.2.2.2.2.2.2.2.2.2.2.2.2 h (by decide)
theorem stP17 {α : Type} {S : Nat → Nat × Nat} {Q : Nat → Int → Int} {w : Nat → Nat → Int64} {rf : Nat → Nat → Option Nat} {F : mm → Option α} {x : Nat} {z y : Int} (hS : SCok S) (hx : isPar x) (h : 0 ≤ z ∧ z < 6) : stI S (mk Q w rf) (x + 17) (I z) (I y) F = F (mk (setR Q (x + 17) (updf (Q (x + 17)) z y)) w rf) := stI_mk (hS.1 x hx).2.2.2.2.2.2.2.2.2.2.2.2.2.2.2 h (by decide)
theorem gL0 {α : Type} {Q : Nat → Int → Int} {w : Nat → Nat → Int64} {rf : Nat → Nat → Option Nat} {F : Nat → Option α} {l : Nat} (hr : RCok rf) (hl : isLife l) : gR (mk Q w rf) l 0 F = F 67 := gR_mk (hr.2.1 l hl).1
theorem gL4 {α : Type} {Q : Nat → Int → Int} {w : Nat → Nat → Int64} {rf : Nat → Nat → Option Nat} {F : Nat → Option α} {l : Nat} (hr : RCok rf) (hl : isLife l) : gR (mk Q w rf) l 4 F = F (l + 1) := gR_mk (hr.2.1 l hl).2.1
theorem ldL1 {α : Type} {S : Nat → Nat × Nat} {Q : Nat → Int → Int} {w : Nat → Nat → Int64} {rf : Nat → Nat → Option Nat} {F : Int32 → Option α} {l : Nat} {z : Int} (hS : SCok S) (hl : isLife l) (h : 0 ≤ z ∧ z < 8) : ldI S (mk Q w rf) (l + 1) (I z) F = F (I (Q (l + 1) z)) := ldI_mk (hS.2.1 l hl).1 h (by decide)
theorem stL1 {α : Type} {S : Nat → Nat × Nat} {Q : Nat → Int → Int} {w : Nat → Nat → Int64} {rf : Nat → Nat → Option Nat} {F : mm → Option α} {l : Nat} {z y : Int} (hS : SCok S) (hl : isLife l) (h : 0 ≤ z ∧ z < 8) : stI S (mk Q w rf) (l + 1) (I z) (I y) F = F (mk (setR Q (l + 1) (updf (Q (l + 1)) z y)) w rf) := stI_mk (hS.2.1 l hl).1 h (by decide)
theorem gL5 {α : Type} {Q : Nat → Int → Int} {w : Nat → Nat → Int64} {rf : Nat → Nat → Option Nat} {F : Nat → Option α} {l : Nat} (hr : RCok rf) (hl : isLife l) : gR (mk Q w rf) l 5 F = F (l + 2) := gR_mk (hr.2.1 l hl).2.2.1
theorem ldL2 {α : Type} {S : Nat → Nat × Nat} {Q : Nat → Int → Int} {w : Nat → Nat → Int64} {rf : Nat → Nat → Option Nat} {F : Int32 → Option α} {l : Nat} {z : Int} (hS : SCok S) (hl : isLife l) (h : 0 ≤ z ∧ z < 8) : ldI S (mk Q w rf) (l + 2) (I z) F = F (I (Q (l + 2) z)) := ldI_mk (hS.2.1 l hl).2.1 h (by decide)
theorem stL2 {α : Type} {S : Nat → Nat × Nat} {Q : Nat → Int → Int} {w : Nat → Nat → Int64} {rf : Nat → Nat → Option Nat} {F : mm → Option α} {l : Nat} {z y : Int} (hS : SCok S) (hl : isLife l) (h : 0 ≤ z ∧ z < 8) : stI S (mk Q w rf) (l + 2) (I z) (I y) F = F (mk (setR Q (l + 2) (updf (Q (l + 2)) z y)) w rf) := stI_mk (hS.2.1 l hl).2.1 h (by decide)
theorem gL6 {α : Type} {Q : Nat → Int → Int} {w : Nat → Nat → Int64} {rf : Nat → Nat → Option Nat} {F : Nat → Option α} {l : Nat} (hr : RCok rf) (hl : isLife l) : gR (mk Q w rf) l 6 F = F (l + 3) := gR_mk (hr.2.1 l hl).2.2.2.1
theorem ldL3 {α : Type} {S : Nat → Nat × Nat} {Q : Nat → Int → Int} {w : Nat → Nat → Int64} {rf : Nat → Nat → Option Nat} {F : Int32 → Option α} {l : Nat} {z : Int} (hS : SCok S) (hl : isLife l) (h : 0 ≤ z ∧ z < 4) : ldI S (mk Q w rf) (l + 3) (I z) F = F (I (Q (l + 3) z)) := ldI_mk (hS.2.1 l hl).2.2.1 h (by decide)
theorem stL3 {α : Type} {S : Nat → Nat × Nat} {Q : Nat → Int → Int} {w : Nat → Nat → Int64} {rf : Nat → Nat → Option Nat} {F : mm → Option α} {l : Nat} {z y : Int} (hS : SCok S) (hl : isLife l) (h : 0 ≤ z ∧ z < 4) : stI S (mk Q w rf) (l + 3) (I z) (I y) F = F (mk (setR Q (l + 3) (updf (Q (l + 3)) z y)) w rf) := stI_mk (hS.2.1 l hl).2.2.1 h (by decide)
theorem gL7 {α : Type} {Q : Nat → Int → Int} {w : Nat → Nat → Int64} {rf : Nat → Nat → Option Nat} {F : Nat → Option α} {l : Nat} (hr : RCok rf) (hl : isLife l) : gR (mk Q w rf) l 7 F = F (l + 4) := gR_mk (hr.2.1 l hl).2.2.2.2.1
theorem ldL4 {α : Type} {S : Nat → Nat × Nat} {Q : Nat → Int → Int} {w : Nat → Nat → Int64} {rf : Nat → Nat → Option Nat} {F : Int32 → Option α} {l : Nat} {z : Int} (hS : SCok S) (hl : isLife l) (h : 0 ≤ z ∧ z < 4) : ldI S (mk Q w rf) (l + 4) (I z) F = F (I (Q (l + 4) z)) := ldI_mk (hS.2.1 l hl).2.2.2.1 h (by decide)
theorem stL4 {α : Type} {S : Nat → Nat × Nat} {Q : Nat → Int → Int} {w : Nat → Nat → Int64} {rf : Nat → Nat → Option Nat} {F : mm → Option α} {l : Nat} {z y : Int} (hS : SCok S) (hl : isLife l) (h : 0 ≤ z ∧ z < 4) : stI S (mk Q w rf) (l + 4) (I z) (I y) F = F (mk (setR Q (l + 4) (updf (Q (l + 4)) z y)) w rf) := stI_mk (hS.2.1 l hl).2.2.2.1 h (by decide)
theorem gL8 {α : Type} {Q : Nat → Int → Int} {w : Nat → Nat → Int64} {rf : Nat → Nat → Option Nat} {F : Nat → Option α} {l : Nat} (hr : RCok rf) (hl : isLife l) : gR (mk Q w rf) l 8 F = F (l + 5) := gR_mk (hr.2.1 l hl).2.2.2.2.2.1
theorem ldL5 {α : Type} {S : Nat → Nat × Nat} {Q : Nat → Int → Int} {w : Nat → Nat → Int64} {rf : Nat → Nat → Option Nat} {F : Int32 → Option α} {l : Nat} {z : Int} (hS : SCok S) (hl : isLife l) (h : 0 ≤ z ∧ z < 4) : ldI S (mk Q w rf) (l + 5) (I z) F = F (I (Q (l + 5) z)) := ldI_mk (hS.2.1 l hl).2.2.2.2.1 h (by decide)
theorem stL5 {α : Type} {S : Nat → Nat × Nat} {Q : Nat → Int → Int} {w : Nat → Nat → Int64} {rf : Nat → Nat → Option Nat} {F : mm → Option α} {l : Nat} {z y : Int} (hS : SCok S) (hl : isLife l) (h : 0 ≤ z ∧ z < 4) : stI S (mk Q w rf) (l + 5) (I z) (I y) F = F (mk (setR Q (l + 5) (updf (Q (l + 5)) z y)) w rf) := stI_mk (hS.2.1 l hl).2.2.2.2.1 h (by decide)
theorem gL9 {α : Type} {Q : Nat → Int → Int} {w : Nat → Nat → Int64} {rf : Nat → Nat → Option Nat} {F : Nat → Option α} {l : Nat} (hr : RCok rf) (hl : isLife l) : gR (mk Q w rf) l 9 F = F (l + 6) := gR_mk (hr.2.1 l hl).2.2.2.2.2.2.1
theorem ldL6 {α : Type} {S : Nat → Nat × Nat} {Q : Nat → Int → Int} {w : Nat → Nat → Int64} {rf : Nat → Nat → Option Nat} {F : Int32 → Option α} {l : Nat} {z : Int} (hS : SCok S) (hl : isLife l) (h : 0 ≤ z ∧ z < 4) : ldI S (mk Q w rf) (l + 6) (I z) F = F (I (Q (l + 6) z)) := ldI_mk (hS.2.1 l hl).2.2.2.2.2.1 h (by decide)
theorem stL6 {α : Type} {S : Nat → Nat × Nat} {Q : Nat → Int → Int} {w : Nat → Nat → Int64} {rf : Nat → Nat → Option Nat} {F : mm → Option α} {l : Nat} {z y : Int} (hS : SCok S) (hl : isLife l) (h : 0 ≤ z ∧ z < 4) : stI S (mk Q w rf) (l + 6) (I z) (I y) F = F (mk (setR Q (l + 6) (updf (Q (l + 6)) z y)) w rf) := stI_mk (hS.2.1 l hl).2.2.2.2.2.1 h (by decide)
theorem gL10 {α : Type} {Q : Nat → Int → Int} {w : Nat → Nat → Int64} {rf : Nat → Nat → Option Nat} {F : Nat → Option α} {l : Nat} (hr : RCok rf) (hl : isLife l) : gR (mk Q w rf) l 10 F = F (l + 7) := gR_mk (hr.2.1 l hl).2.2.2.2.2.2.2
theorem ldL7 {α : Type} {S : Nat → Nat × Nat} {Q : Nat → Int → Int} {w : Nat → Nat → Int64} {rf : Nat → Nat → Option Nat} {F : Int32 → Option α} {l : Nat} {z : Int} (hS : SCok S) (hl : isLife l) (h : 0 ≤ z ∧ z < 4) : ldI S (mk Q w rf) (l + 7) (I z) F = F (I (Q (l + 7) z)) := ldI_mk (hS.2.1 l hl).2.2.2.2.2.2 h (by decide)
theorem stL7 {α : Type} {S : Nat → Nat × Nat} {Q : Nat → Int → Int} {w : Nat → Nat → Int64} {rf : Nat → Nat → Option Nat} {F : mm → Option α} {l : Nat} {z y : Int} (hS : SCok S) (hl : isLife l) (h : 0 ≤ z ∧ z < 4) : stI S (mk Q w rf) (l + 7) (I z) (I y) F = F (mk (setR Q (l + 7) (updf (Q (l + 7)) z y)) w rf) := stI_mk (hS.2.1 l hl).2.2.2.2.2.2 h (by decide)
theorem gC64_0 {α : Type} {Q : Nat → Int → Int} {w : Nat → Nat → Int64} {rf : Nat → Nat → Option Nat} {F : Nat → Option α} (hr : RCok rf) : gR (mk Q w rf) 64 0 F = F 65 := gR_mk hr.2.2.1
theorem gC64_1 {α : Type} {Q : Nat → Int → Int} {w : Nat → Nat → Int64} {rf : Nat → Nat → Option Nat} {F : Nat → Option α} (hr : RCok rf) : gR (mk Q w rf) 64 1 F = F 67 := gR_mk hr.2.2.2.1
theorem gC64_2 {α : Type} {Q : Nat → Int → Int} {w : Nat → Nat → Int64} {rf : Nat → Nat → Option Nat} {F : Nat → Option α} (hr : RCok rf) : gR (mk Q w rf) 64 2 F = F 85 := gR_mk hr.2.2.2.2.1
theorem gC64_3 {α : Type} {Q : Nat → Int → Int} {w : Nat → Nat → Int64} {rf : Nat → Nat → Option Nat} {F : Nat → Option α} (hr : RCok rf) : gR (mk Q w rf) 64 3 F = F 103 := gR_mk hr.2.2.2.2.2.1
theorem gC64_4 {α : Type} {Q : Nat → Int → Int} {w : Nat → Nat → Int64} {rf : Nat → Nat → Option Nat} {F : Nat → Option α} (hr : RCok rf) : gR (mk Q w rf) 64 4 F = F 104 := gR_mk hr.2.2.2.2.2.2.1
theorem gC64_5 {α : Type} {Q : Nat → Int → Int} {w : Nat → Nat → Int64} {rf : Nat → Nat → Option Nat} {F : Nat → Option α} (hr : RCok rf) : gR (mk Q w rf) 64 5 F = F 112 := gR_mk hr.2.2.2.2.2.2.2.1
theorem gC64_6 {α : Type} {Q : Nat → Int → Int} {w : Nat → Nat → Int64} {rf : Nat → Nat → Option Nat} {F : Nat → Option α} (hr : RCok rf) : gR (mk Q w rf) 64 6 F = F 120 := gR_mk hr.2.2.2.2.2.2.2.2.1
theorem gC64_7 {α : Type} {Q : Nat → Int → Int} {w : Nat → Nat → Int64} {rf : Nat → Nat → Option Nat} {F : Nat → Option α} (hr : RCok rf) : gR (mk Q w rf) 64 7 F = F 186 := gR_mk hr.2.2.2.2.2.2.2.2.2.1
theorem gC64_8 {α : Type} {Q : Nat → Int → Int} {w : Nat → Nat → Int64} {rf : Nat → Nat → Option Nat} {F : Nat → Option α} (hr : RCok rf) : gR (mk Q w rf) 64 8 F = F 189 := gR_mk hr.2.2.2.2.2.2.2.2.2.2.1
theorem gC64_9 {α : Type} {Q : Nat → Int → Int} {w : Nat → Nat → Int64} {rf : Nat → Nat → Option Nat} {F : Nat → Option α} (hr : RCok rf) : gR (mk Q w rf) 64 9 F = F 193 := gR_mk hr.2.2.2.2.2.2.2.2.2.2.2.1
theorem gC64_10 {α : Type} {Q : Nat → Int → Int} {w : Nat → Nat → Int64} {rf : Nat → Nat → Option Nat} {F : Nat → Option α} (hr : RCok rf) : gR (mk Q w rf) 64 10 F = F 197 := gR_mk hr.2.2.2.2.2.2.2.2.2.2.2.2.1
theorem gC64_11 {α : Type} {Q : Nat → Int → Int} {w : Nat → Nat → Int64} {rf : Nat → Nat → Option Nat} {F : Nat → Option α} (hr : RCok rf) : gR (mk Q w rf) 64 11 F = F 201 := gR_mk hr.2.2.2.2.2.2.2.2.2.2.2.2.2.1
theorem gC64_12 {α : Type} {Q : Nat → Int → Int} {w : Nat → Nat → Int64} {rf : Nat → Nat → Option Nat} {F : Nat → Option α} (hr : RCok rf) : gR (mk Q w rf) 64 12 F = F 205 := gR_mk hr.2.2.2.2.2.2.2.2.2.2.2.2.2.2.1
theorem gC64_13 {α : Type} {Q : Nat → Int → Int} {w : Nat → Nat → Int64} {rf : Nat → Nat → Option Nat} {F : Nat → Option α} (hr : RCok rf) : gR (mk Q w rf) 64 13 F = F 206 := gR_mk hr.2.2.2.2.2.2.2.2.2.2.2.2.2.2.2.1
theorem gC64_14 {α : Type} {Q : Nat → Int → Int} {w : Nat → Nat → Int64} {rf : Nat → Nat → Option Nat} {F : Nat → Option α} (hr : RCok rf) : gR (mk Q w rf) 64 14 F = F 207 := gR_mk hr.2.2.2.2.2.2.2.2.2.2.2.2.2.2.2.2.1
theorem gC64_15 {α : Type} {Q : Nat → Int → Int} {w : Nat → Nat → Int64} {rf : Nat → Nat → Option Nat} {F : Nat → Option α} (hr : RCok rf) : gR (mk Q w rf) 64 15 F = F 208 := gR_mk hr.2.2.2.2.2.2.2.2.2.2.2.2.2.2.2.2.2.1
theorem gC65_0 {α : Type} {Q : Nat → Int → Int} {w : Nat → Nat → Int64} {rf : Nat → Nat → Option Nat} {F : Nat → Option α} (hr : RCok rf) : gR (mk Q w rf) 65 0 F = F 66 := gR_mk hr.2.2.2.2.2.2.2.2.2.2.2.2.2.2.2.2.2.2.1
theorem gC103_0 {α : Type} {Q : Nat → Int → Int} {w : Nat → Nat → Int64} {rf : Nat → Nat → Option Nat} {F : Nat → Option α} (hr : RCok rf) : gR (mk Q w rf) 103 0 F = F 65 := gR_mk hr.2.2.2.2.2.2.2.2.2.2.2.2.2.2.2.2.2.2.2.1
theorem gC103_1 {α : Type} {Q : Nat → Int → Int} {w : Nat → Nat → Int64} {rf : Nat → Nat → Option Nat} {F : Nat → Option α} (hr : RCok rf) : gR (mk Q w rf) 103 1 F = F 85 := gR_mk hr.2.2.2.2.2.2.2.2.2.2.2.2.2.2.2.2.2.2.2.2.1
theorem gC120_0 {α : Type} {Q : Nat → Int → Int} {w : Nat → Nat → Int64} {rf : Nat → Nat → Option Nat} {F : Nat → Option α} (hr : RCok rf) : gR (mk Q w rf) 120 0 F = F 121 := gR_mk hr.2.2.2.2.2.2.2.2.2.2.2.2.2.2.2.2.2.2.2.2.2.1
theorem gC186_0 {α : Type} {Q : Nat → Int → Int} {w : Nat → Nat → Int64} {rf : Nat → Nat → Option Nat} {F : Nat → Option α} (hr : RCok rf) : gR (mk Q w rf) 186 0 F = F 67 := gR_mk hr.2.2.2.2.2.2.2.2.2.2.2.2.2.2.2.2.2.2.2.2.2.2.1
theorem gC186_1 {α : Type} {Q : Nat → Int → Int} {w : Nat → Nat → Int64} {rf : Nat → Nat → Option Nat} {F : Nat → Option α} (hr : RCok rf) : gR (mk Q w rf) 186 1 F = F 104 := gR_mk hr.2.2.2.2.2.2.2.2.2.2.2.2.2.2.2.2.2.2.2.2.2.2.2.1
theorem gC186_2 {α : Type} {Q : Nat → Int → Int} {w : Nat → Nat → Int64} {rf : Nat → Nat → Option Nat} {F : Nat → Option α} (hr : RCok rf) : gR (mk Q w rf) 186 2 F = F 187 := gR_mk hr.2.2.2.2.2.2.2.2.2.2.2.2.2.2.2.2.2.2.2.2.2.2.2.2.1
theorem gC186_3 {α : Type} {Q : Nat → Int → Int} {w : Nat → Nat → Int64} {rf : Nat → Nat → Option Nat} {F : Nat → Option α} (hr : RCok rf) : gR (mk Q w rf) 186 3 F = F 188 := gR_mk hr.2.2.2.2.2.2.2.2.2.2.2.2.2.2.2.2.2.2.2.2.2.2.2.2.2.1
theorem gC189_0 {α : Type} {Q : Nat → Int → Int} {w : Nat → Nat → Int64} {rf : Nat → Nat → Option Nat} {F : Nat → Option α} (hr : RCok rf) : gR (mk Q w rf) 189 0 F = F 186 := gR_mk hr.2.2.2.2.2.2.2.2.2.2.2.2.2.2.2.2.2.2.2.2.2.2.2.2.2.2.1
theorem gC189_1 {α : Type} {Q : Nat → Int → Int} {w : Nat → Nat → Int64} {rf : Nat → Nat → Option Nat} {F : Nat → Option α} (hr : RCok rf) : gR (mk Q w rf) 189 1 F = F 190 := gR_mk hr.2.2.2.2.2.2.2.2.2.2.2.2.2.2.2.2.2.2.2.2.2.2.2.2.2.2.2.1
theorem gC189_2 {α : Type} {Q : Nat → Int → Int} {w : Nat → Nat → Int64} {rf : Nat → Nat → Option Nat} {F : Nat → Option α} (hr : RCok rf) : gR (mk Q w rf) 189 2 F = F 191 := gR_mk hr.2.2.2.2.2.2.2.2.2.2.2.2.2.2.2.2.2.2.2.2.2.2.2.2.2.2.2.2.1
theorem gC189_3 {α : Type} {Q : Nat → Int → Int} {w : Nat → Nat → Int64} {rf : Nat → Nat → Option Nat} {F : Nat → Option α} (hr : RCok rf) : gR (mk Q w rf) 189 3 F = F 192 := gR_mk hr.2.2.2.2.2.2.2.2.2.2.2.2.2.2.2.2.2.2.2.2.2.2.2.2.2.2.2.2.2.1
theorem gC193_0 {α : Type} {Q : Nat → Int → Int} {w : Nat → Nat → Int64} {rf : Nat → Nat → Option Nat} {F : Nat → Option α} (hr : RCok rf) : gR (mk Q w rf) 193 0 F = F 65 := gR_mk hr.2.2.2.2.2.2.2.2.2.2.2.2.2.2.2.2.2.2.2.2.2.2.2.2.2.2.2.2.2.2.1
theorem gC193_1 {α : Type} {Q : Nat → Int → Int} {w : Nat → Nat → Int64} {rf : Nat → Nat → Option Nat} {F : Nat → Option α} (hr : RCok rf) : gR (mk Q w rf) 193 1 F = F 67 := gR_mk hr.2.2.2.2.2.2.2.2.2.2.2.2.2.2.2.2.2.2.2.2.2.2.2.2.2.2.2.2.2.2.2.1
theorem gC193_2 {α : Type} {Q : Nat → Int → Int} {w : Nat → Nat → Int64} {rf : Nat → Nat → Option Nat} {F : Nat → Option α} (hr : RCok rf) : gR (mk Q w rf) 193 2 F = F 194 := gR_mk hr.2.2.2.2.2.2.2.2.2.2.2.2.2.2.2.2.2.2.2.2.2.2.2.2.2.2.2.2.2.2.2.2.1
theorem gC193_3 {α : Type} {Q : Nat → Int → Int} {w : Nat → Nat → Int64} {rf : Nat → Nat → Option Nat} {F : Nat → Option α} (hr : RCok rf) : gR (mk Q w rf) 193 3 F = F 195 := gR_mk hr.2.2.2.2.2.2.2.2.2.2.2.2.2.2.2.2.2.2.2.2.2.2.2.2.2.2.2.2.2.2.2.2.2.1
theorem gC193_4 {α : Type} {Q : Nat → Int → Int} {w : Nat → Nat → Int64} {rf : Nat → Nat → Option Nat} {F : Nat → Option α} (hr : RCok rf) : gR (mk Q w rf) 193 4 F = F 196 := gR_mk hr.2.2.2.2.2.2.2.2.2.2.2.2.2.2.2.2.2.2.2.2.2.2.2.2.2.2.2.2.2.2.2.2.2.2.1
theorem gC197_0 {α : Type} {Q : Nat → Int → Int} {w : Nat → Nat → Int64} {rf : Nat → Nat → Option Nat} {F : Nat → Option α} (hr : RCok rf) : gR (mk Q w rf) 197 0 F = F 198 := gR_mk hr.2.2.2.2.2.2.2.2.2.2.2.2.2.2.2.2.2.2.2.2.2.2.2.2.2.2.2.2.2.2.2.2.2.2.2.1
theorem gC197_1 {α : Type} {Q : Nat → Int → Int} {w : Nat → Nat → Int64} {rf : Nat → Nat → Option Nat} {F : Nat → Option α} (hr : RCok rf) : gR (mk Q w rf) 197 1 F = F 199 := gR_mk hr.2.2.2.2.2.2.2.2.2.2.2.2.2.2.2.2.2.2.2.2.2.2.2.2.2.2.2.2.2.2.2.2.2.2.2.2.1
theorem gC197_2 {α : Type} {Q : Nat → Int → Int} {w : Nat → Nat → Int64} {rf : Nat → Nat → Option Nat} {F : Nat → Option α} (hr : RCok rf) : gR (mk Q w rf) 197 2 F = F 200 := gR_mk hr.2.2.2.2.2.2.2.2.2.2.2.2.2.2.2.2.2.2.2.2.2.2.2.2.2.2.2.2.2.2.2.2.2.2.2.2.2.1
theorem gC201_0 {α : Type} {Q : Nat → Int → Int} {w : Nat → Nat → Int64} {rf : Nat → Nat → Option Nat} {F : Nat → Option α} (hr : RCok rf) : gR (mk Q w rf) 201 0 F = F 202 := gR_mk hr.2.2.2.2.2.2.2.2.2.2.2.2.2.2.2.2.2.2.2.2.2.2.2.2.2.2.2.2.2.2.2.2.2.2.2.2.2.2.1
theorem gC201_1 {α : Type} {Q : Nat → Int → Int} {w : Nat → Nat → Int64} {rf : Nat → Nat → Option Nat} {F : Nat → Option α} (hr : RCok rf) : gR (mk Q w rf) 201 1 F = F 203 := gR_mk hr.2.2.2.2.2.2.2.2.2.2.2.2.2.2.2.2.2.2.2.2.2.2.2.2.2.2.2.2.2.2.2.2.2.2.2.2.2.2.2.1
theorem gC201_2 {α : Type} {Q : Nat → Int → Int} {w : Nat → Nat → Int64} {rf : Nat → Nat → Option Nat} {F : Nat → Option α} (hr : RCok rf) : gR (mk Q w rf) 201 2 F = F 204 := gR_mk hr.2.2.2.2.2.2.2.2.2.2.2.2.2.2.2.2.2.2.2.2.2.2.2.2.2.2.2.2.2.2.2.2.2.2.2.2.2.2.2.2.1
theorem gC205_0 {α : Type} {Q : Nat → Int → Int} {w : Nat → Nat → Int64} {rf : Nat → Nat → Option Nat} {F : Nat → Option α} (hr : RCok rf) : gR (mk Q w rf) 205 0 F = F 211 := gR_mk hr.2.2.2.2.2.2.2.2.2.2.2.2.2.2.2.2.2.2.2.2.2.2.2.2.2.2.2.2.2.2.2.2.2.2.2.2.2.2.2.2.2.1
theorem gC205_1 {α : Type} {Q : Nat → Int → Int} {w : Nat → Nat → Int64} {rf : Nat → Nat → Option Nat} {F : Nat → Option α} (hr : RCok rf) : gR (mk Q w rf) 205 1 F = F 241 := gR_mk hr.2.2.2.2.2.2.2.2.2.2.2.2.2.2.2.2.2.2.2.2.2.2.2.2.2.2.2.2.2.2.2.2.2.2.2.2.2.2.2.2.2.2.1
theorem gC206_0 {α : Type} {Q : Nat → Int → Int} {w : Nat → Nat → Int64} {rf : Nat → Nat → Option Nat} {F : Nat → Option α} (hr : RCok rf) : gR (mk Q w rf) 206 0 F = F 229 := gR_mk hr.2.2.2.2.2.2.2.2.2.2.2.2.2.2.2.2.2.2.2.2.2.2.2.2.2.2.2.2.2.2.2.2.2.2.2.2.2.2.2.2.2.2.2.1
theorem gC206_1 {α : Type} {Q : Nat → Int → Int} {w : Nat → Nat → Int64} {rf : Nat → Nat → Option Nat} {F : Nat → Option α} (hr : RCok rf) : gR (mk Q w rf) 206 1 F = F 259 := gR_mk hr.2.2.2.2.2.2.2.2.2.2.2.2.2.2.2.2.2.2.2.2.2.2.2.2.2.2.2.2.2.2.2.2.2.2.2.2.2.2.2.2.2.2.2.2.1
theorem gC207_0 {α : Type} {Q : Nat → Int → Int} {w : Nat → Nat → Int64} {rf : Nat → Nat → Option Nat} {F : Nat → Option α} (hr : RCok rf) : gR (mk Q w rf) 207 0 F = F 237 := gR_mk hr.2.2.2.2.2.2.2.2.2.2.2.2.2.2.2.2.2.2.2.2.2.2.2.2.2.2.2.2.2.2.2.2.2.2.2.2.2.2.2.2.2.2.2.2.2.1
theorem gC207_1 {α : Type} {Q : Nat → Int → Int} {w : Nat → Nat → Int64} {rf : Nat → Nat → Option Nat} {F : Nat → Option α} (hr : RCok rf) : gR (mk Q w rf) 207 1 F = F 267 := gR_mk hr.2.2.2.2.2.2.2.2.2.2.2.2.2.2.2.2.2.2.2.2.2.2.2.2.2.2.2.2.2.2.2.2.2.2.2.2.2.2.2.2.2.2.2.2.2.2.1
theorem gC237_0 {α : Type} {Q : Nat → Int → Int} {w : Nat → Nat → Int64} {rf : Nat → Nat → Option Nat} {F : Nat → Option α} (hr : RCok rf) : gR (mk Q w rf) 237 0 F = F 238 := gR_mk hr.2.2.2.2.2.2.2.2.2.2.2.2.2.2.2.2.2.2.2.2.2.2.2.2.2.2.2.2.2.2.2.2.2.2.2.2.2.2.2.2.2.2.2.2.2.2.2.1
theorem gC237_1 {α : Type} {Q : Nat → Int → Int} {w : Nat → Nat → Int64} {rf : Nat → Nat → Option Nat} {F : Nat → Option α} (hr : RCok rf) : gR (mk Q w rf) 237 1 F = F 239 := gR_mk hr.2.2.2.2.2.2.2.2.2.2.2.2.2.2.2.2.2.2.2.2.2.2.2.2.2.2.2.2.2.2.2.2.2.2.2.2.2.2.2.2.2.2.2.2.2.2.2.2.1
theorem gC237_2 {α : Type} {Q : Nat → Int → Int} {w : Nat → Nat → Int64} {rf : Nat → Nat → Option Nat} {F : Nat → Option α} (hr : RCok rf) : gR (mk Q w rf) 237 2 F = F 240 := gR_mk hr.2.2.2.2.2.2.2.2.2.2.2.2.2.2.2.2.2.2.2.2.2.2.2.2.2.2.2.2.2.2.2.2.2.2.2.2.2.2.2.2.2.2.2.2.2.2.2.2.2.1
theorem gC267_0 {α : Type} {Q : Nat → Int → Int} {w : Nat → Nat → Int64} {rf : Nat → Nat → Option Nat} {F : Nat → Option α} (hr : RCok rf) : gR (mk Q w rf) 267 0 F = F 268 := gR_mk hr.2.2.2.2.2.2.2.2.2.2.2.2.2.2.2.2.2.2.2.2.2.2.2.2.2.2.2.2.2.2.2.2.2.2.2.2.2.2.2.2.2.2.2.2.2.2.2.2.2.2.1
theorem gC267_1 {α : Type} {Q : Nat → Int → Int} {w : Nat → Nat → Int64} {rf : Nat → Nat → Option Nat} {F : Nat → Option α} (hr : RCok rf) : gR (mk Q w rf) 267 1 F = F 269 := gR_mk hr.2.2.2.2.2.2.2.2.2.2.2.2.2.2.2.2.2.2.2.2.2.2.2.2.2.2.2.2.2.2.2.2.2.2.2.2.2.2.2.2.2.2.2.2.2.2.2.2.2.2.2.1
theorem gC267_2 {α : Type} {Q : Nat → Int → Int} {w : Nat → Nat → Int64} {rf : Nat → Nat → Option Nat} {F : Nat → Option α} (hr : RCok rf) : gR (mk Q w rf) 267 2 F = F 270 := gR_mk hr.2.2.2.2.2.2.2.2.2.2.2.2.2.2.2.2.2.2.2.2.2.2.2.2.2.2.2.2.2.2.2.2.2.2.2.2.2.2.2.2.2.2.2.2.2.2.2.2.2.2.2.2.1
theorem gC64_16 {α : Type} {Q : Nat → Int → Int} {w : Nat → Nat → Int64} {rf : Nat → Nat → Option Nat} {F : Nat → Option α} (hr : RCok rf) : gR (mk Q w rf) 64 16 F = F 209 := gR_mk hr.2.2.2.2.2.2.2.2.2.2.2.2.2.2.2.2.2.2.2.2.2.2.2.2.2.2.2.2.2.2.2.2.2.2.2.2.2.2.2.2.2.2.2.2.2.2.2.2.2.2.2.2.2
theorem ldC66 {α : Type} {S : Nat → Nat × Nat} {Q : Nat → Int → Int} {w : Nat → Nat → Int64} {rf : Nat → Nat → Option Nat} {F : Int32 → Option α}  {z : Int} (hS : SCok S)  (h : 0 ≤ z ∧ z < 940) : ldI S (mk Q w rf) (66) (I z) F = F (I (Q (66) z)) := ldI_mk hS.2.2.1 h (by decide)
theorem stC66 {α : Type} {S : Nat → Nat × Nat} {Q : Nat → Int → Int} {w : Nat → Nat → Int64} {rf : Nat → Nat → Option Nat} {F : mm → Option α}  {z y : Int} (hS : SCok S)  (h : 0 ≤ z ∧ z < 940) : stI S (mk Q w rf) (66) (I z) (I y) F = F (mk (setR Q (66) (updf (Q (66)) z y)) w rf) := stI_mk hS.2.2.1 h (by decide)
theorem ldC187 {α : Type} {S : Nat → Nat × Nat} {Q : Nat → Int → Int} {w : Nat → Nat → Int64} {rf : Nat → Nat → Option Nat} {F : Int32 → Option α}  {z : Int} (hS : SCok S)  (h : 0 ≤ z ∧ z < 600) : ldI S (mk Q w rf) (187) (I z) F = F (I (Q (187) z)) := ldI_mk hS.2.2.2.1 h (by decide)
theorem stC187 {α : Type} {S : Nat → Nat × Nat} {Q : Nat → Int → Int} {w : Nat → Nat → Int64} {rf : Nat → Nat → Option Nat} {F : mm → Option α}  {z y : Int} (hS : SCok S)  (h : 0 ≤ z ∧ z < 600) : stI S (mk Q w rf) (187) (I z) (I y) F = F (mk (setR Q (187) (updf (Q (187)) z y)) w rf) := stI_mk hS.2.2.2.1 h (by decide)
theorem ldC188 {α : Type} {S : Nat → Nat × Nat} {Q : Nat → Int → Int} {w : Nat → Nat → Int64} {rf : Nat → Nat → Option Nat} {F : Int32 → Option α}  {z : Int} (hS : SCok S)  (h : 0 ≤ z ∧ z < 600) : ldI S (mk Q w rf) (188) (I z) F = F (I (Q (188) z)) := ldI_mk hS.2.2.2.2.1 h (by decide)
theorem stC188 {α : Type} {S : Nat → Nat × Nat} {Q : Nat → Int → Int} {w : Nat → Nat → Int64} {rf : Nat → Nat → Option Nat} {F : mm → Option α}  {z y : Int} (hS : SCok S)  (h : 0 ≤ z ∧ z < 600) : stI S (mk Q w rf) (188) (I z) (I y) F = F (mk (setR Q (188) (updf (Q (188)) z y)) w rf) := stI_mk hS.2.2.2.2.1 h (by decide)
theorem ldC190 {α : Type} {S : Nat → Nat × Nat} {Q : Nat → Int → Int} {w : Nat → Nat → Int64} {rf : Nat → Nat → Option Nat} {F : Int32 → Option α}  {z : Int} (hS : SCok S)  (h : 0 ≤ z ∧ z < 540) : ldI S (mk Q w rf) (190) (I z) F = F (I (Q (190) z)) := ldI_mk hS.2.2.2.2.2.1 h (by decide)
theorem stC190 {α : Type} {S : Nat → Nat × Nat} {Q : Nat → Int → Int} {w : Nat → Nat → Int64} {rf : Nat → Nat → Option Nat} {F : mm → Option α}  {z y : Int} (hS : SCok S)  (h : 0 ≤ z ∧ z < 540) : stI S (mk Q w rf) (190) (I z) (I y) F = F (mk (setR Q (190) (updf (Q (190)) z y)) w rf) := stI_mk hS.2.2.2.2.2.1 h (by decide)
theorem ldC191 {α : Type} {S : Nat → Nat × Nat} {Q : Nat → Int → Int} {w : Nat → Nat → Int64} {rf : Nat → Nat → Option Nat} {F : Int32 → Option α}  {z : Int} (hS : SCok S)  (h : 0 ≤ z ∧ z < 60) : ldI S (mk Q w rf) (191) (I z) F = F (I (Q (191) z)) := ldI_mk hS.2.2.2.2.2.2.1 h (by decide)
theorem stC191 {α : Type} {S : Nat → Nat × Nat} {Q : Nat → Int → Int} {w : Nat → Nat → Int64} {rf : Nat → Nat → Option Nat} {F : mm → Option α}  {z y : Int} (hS : SCok S)  (h : 0 ≤ z ∧ z < 60) : stI S (mk Q w rf) (191) (I z) (I y) F = F (mk (setR Q (191) (updf (Q (191)) z y)) w rf) := stI_mk hS.2.2.2.2.2.2.1 h (by decide)
theorem ldC192 {α : Type} {S : Nat → Nat × Nat} {Q : Nat → Int → Int} {w : Nat → Nat → Int64} {rf : Nat → Nat → Option Nat} {F : Int32 → Option α}  {z : Int} (hS : SCok S)  (h : 0 ≤ z ∧ z < 60) : ldI S (mk Q w rf) (192) (I z) F = F (I (Q (192) z)) := ldI_mk hS.2.2.2.2.2.2.2.1 h (by decide)
theorem stC192 {α : Type} {S : Nat → Nat × Nat} {Q : Nat → Int → Int} {w : Nat → Nat → Int64} {rf : Nat → Nat → Option Nat} {F : mm → Option α}  {z y : Int} (hS : SCok S)  (h : 0 ≤ z ∧ z < 60) : stI S (mk Q w rf) (192) (I z) (I y) F = F (mk (setR Q (192) (updf (Q (192)) z y)) w rf) := stI_mk hS.2.2.2.2.2.2.2.1 h (by decide)
theorem ldC194 {α : Type} {S : Nat → Nat × Nat} {Q : Nat → Int → Int} {w : Nat → Nat → Int64} {rf : Nat → Nat → Option Nat} {F : Int32 → Option α}  {z : Int} (hS : SCok S)  (h : 0 ≤ z ∧ z < 40) : ldI S (mk Q w rf) (194) (I z) F = F (I (Q (194) z)) := ldI_mk hS.2.2.2.2.2.2.2.2.1 h (by decide)
theorem stC194 {α : Type} {S : Nat → Nat × Nat} {Q : Nat → Int → Int} {w : Nat → Nat → Int64} {rf : Nat → Nat → Option Nat} {F : mm → Option α}  {z y : Int} (hS : SCok S)  (h : 0 ≤ z ∧ z < 40) : stI S (mk Q w rf) (194) (I z) (I y) F = F (mk (setR Q (194) (updf (Q (194)) z y)) w rf) := stI_mk hS.2.2.2.2.2.2.2.2.1 h (by decide)
theorem ldC195 {α : Type} {S : Nat → Nat × Nat} {Q : Nat → Int → Int} {w : Nat → Nat → Int64} {rf : Nat → Nat → Option Nat} {F : Int32 → Option α}  {z : Int} (hS : SCok S)  (h : 0 ≤ z ∧ z < 40) : ldI S (mk Q w rf) (195) (I z) F = F (I (Q (195) z)) := ldI_mk hS.2.2.2.2.2.2.2.2.2.1 h (by decide)
theorem stC195 {α : Type} {S : Nat → Nat × Nat} {Q : Nat → Int → Int} {w : Nat → Nat → Int64} {rf : Nat → Nat → Option Nat} {F : mm → Option α}  {z y : Int} (hS : SCok S)  (h : 0 ≤ z ∧ z < 40) : stI S (mk Q w rf) (195) (I z) (I y) F = F (mk (setR Q (195) (updf (Q (195)) z y)) w rf) := stI_mk hS.2.2.2.2.2.2.2.2.2.1 h (by decide)
theorem ldC196 {α : Type} {S : Nat → Nat × Nat} {Q : Nat → Int → Int} {w : Nat → Nat → Int64} {rf : Nat → Nat → Option Nat} {F : Int32 → Option α}  {z : Int} (hS : SCok S)  (h : 0 ≤ z ∧ z < 40) : ldI S (mk Q w rf) (196) (I z) F = F (I (Q (196) z)) := ldI_mk hS.2.2.2.2.2.2.2.2.2.2.1 h (by decide)
theorem stC196 {α : Type} {S : Nat → Nat × Nat} {Q : Nat → Int → Int} {w : Nat → Nat → Int64} {rf : Nat → Nat → Option Nat} {F : mm → Option α}  {z y : Int} (hS : SCok S)  (h : 0 ≤ z ∧ z < 40) : stI S (mk Q w rf) (196) (I z) (I y) F = F (mk (setR Q (196) (updf (Q (196)) z y)) w rf) := stI_mk hS.2.2.2.2.2.2.2.2.2.2.1 h (by decide)
theorem ldC199 {α : Type} {S : Nat → Nat × Nat} {Q : Nat → Int → Int} {w : Nat → Nat → Int64} {rf : Nat → Nat → Option Nat} {F : Int32 → Option α}  {z : Int} (hS : SCok S)  (h : 0 ≤ z ∧ z < 40) : ldI S (mk Q w rf) (199) (I z) F = F (I (Q (199) z)) := ldI_mk hS.2.2.2.2.2.2.2.2.2.2.2.2.1 h (by decide)
theorem stC199 {α : Type} {S : Nat → Nat × Nat} {Q : Nat → Int → Int} {w : Nat → Nat → Int64} {rf : Nat → Nat → Option Nat} {F : mm → Option α}  {z y : Int} (hS : SCok S)  (h : 0 ≤ z ∧ z < 40) : stI S (mk Q w rf) (199) (I z) (I y) F = F (mk (setR Q (199) (updf (Q (199)) z y)) w rf) := stI_mk hS.2.2.2.2.2.2.2.2.2.2.2.2.1 h (by decide)
theorem ldC200 {α : Type} {S : Nat → Nat × Nat} {Q : Nat → Int → Int} {w : Nat → Nat → Int64} {rf : Nat → Nat → Option Nat} {F : Int32 → Option α}  {z : Int} (hS : SCok S)  (h : 0 ≤ z ∧ z < 40) : ldI S (mk Q w rf) (200) (I z) F = F (I (Q (200) z)) := ldI_mk hS.2.2.2.2.2.2.2.2.2.2.2.2.2.1 h (by decide)
theorem stC200 {α : Type} {S : Nat → Nat × Nat} {Q : Nat → Int → Int} {w : Nat → Nat → Int64} {rf : Nat → Nat → Option Nat} {F : mm → Option α}  {z y : Int} (hS : SCok S)  (h : 0 ≤ z ∧ z < 40) : stI S (mk Q w rf) (200) (I z) (I y) F = F (mk (setR Q (200) (updf (Q (200)) z y)) w rf) := stI_mk hS.2.2.2.2.2.2.2.2.2.2.2.2.2.1 h (by decide)
theorem ldC203 {α : Type} {S : Nat → Nat × Nat} {Q : Nat → Int → Int} {w : Nat → Nat → Int64} {rf : Nat → Nat → Option Nat} {F : Int32 → Option α}  {z : Int} (hS : SCok S)  (h : 0 ≤ z ∧ z < 40) : ldI S (mk Q w rf) (203) (I z) F = F (I (Q (203) z)) := ldI_mk hS.2.2.2.2.2.2.2.2.2.2.2.2.2.2.2.1 h (by decide)
theorem stC203 {α : Type} {S : Nat → Nat × Nat} {Q : Nat → Int → Int} {w : Nat → Nat → Int64} {rf : Nat → Nat → Option Nat} {F : mm → Option α}  {z y : Int} (hS : SCok S)  (h : 0 ≤ z ∧ z < 40) : stI S (mk Q w rf) (203) (I z) (I y) F = F (mk (setR Q (203) (updf (Q (203)) z y)) w rf) := stI_mk hS.2.2.2.2.2.2.2.2.2.2.2.2.2.2.2.1 h (by decide)
theorem ldC204 {α : Type} {S : Nat → Nat × Nat} {Q : Nat → Int → Int} {w : Nat → Nat → Int64} {rf : Nat → Nat → Option Nat} {F : Int32 → Option α}  {z : Int} (hS : SCok S)  (h : 0 ≤ z ∧ z < 40) : ldI S (mk Q w rf) (204) (I z) F = F (I (Q (204) z)) := ldI_mk hS.2.2.2.2.2.2.2.2.2.2.2.2.2.2.2.2.1 h (by decide)
theorem stC204 {α : Type} {S : Nat → Nat × Nat} {Q : Nat → Int → Int} {w : Nat → Nat → Int64} {rf : Nat → Nat → Option Nat} {F : mm → Option α}  {z y : Int} (hS : SCok S)  (h : 0 ≤ z ∧ z < 40) : stI S (mk Q w rf) (204) (I z) (I y) F = F (mk (setR Q (204) (updf (Q (204)) z y)) w rf) := stI_mk hS.2.2.2.2.2.2.2.2.2.2.2.2.2.2.2.2.1 h (by decide)
theorem ldC208 {α : Type} {S : Nat → Nat × Nat} {Q : Nat → Int → Int} {w : Nat → Nat → Int64} {rf : Nat → Nat → Option Nat} {F : Int32 → Option α}  {z : Int} (hS : SCok S)  (h : 0 ≤ z ∧ z < 2) : ldI S (mk Q w rf) (208) (I z) F = F (I (Q (208) z)) := ldI_mk hS.2.2.2.2.2.2.2.2.2.2.2.2.2.2.2.2.2.2.2.2.1 h (by decide)
theorem stC208 {α : Type} {S : Nat → Nat × Nat} {Q : Nat → Int → Int} {w : Nat → Nat → Int64} {rf : Nat → Nat → Option Nat} {F : mm → Option α}  {z y : Int} (hS : SCok S)  (h : 0 ≤ z ∧ z < 2) : stI S (mk Q w rf) (208) (I z) (I y) F = F (mk (setR Q (208) (updf (Q (208)) z y)) w rf) := stI_mk hS.2.2.2.2.2.2.2.2.2.2.2.2.2.2.2.2.2.2.2.2.1 h (by decide)
theorem ldC239 {α : Type} {S : Nat → Nat × Nat} {Q : Nat → Int → Int} {w : Nat → Nat → Int64} {rf : Nat → Nat → Option Nat} {F : Int32 → Option α}  {z : Int} (hS : SCok S)  (h : 0 ≤ z ∧ z < 40) : ldI S (mk Q w rf) (239) (I z) F = F (I (Q (239) z)) := ldI_mk hS.2.2.2.2.2.2.2.2.2.2.2.2.2.2.2.2.2.2.2.2.2.2.1 h (by decide)
theorem stC239 {α : Type} {S : Nat → Nat × Nat} {Q : Nat → Int → Int} {w : Nat → Nat → Int64} {rf : Nat → Nat → Option Nat} {F : mm → Option α}  {z y : Int} (hS : SCok S)  (h : 0 ≤ z ∧ z < 40) : stI S (mk Q w rf) (239) (I z) (I y) F = F (mk (setR Q (239) (updf (Q (239)) z y)) w rf) := stI_mk hS.2.2.2.2.2.2.2.2.2.2.2.2.2.2.2.2.2.2.2.2.2.2.1 h (by decide)
theorem ldC240 {α : Type} {S : Nat → Nat × Nat} {Q : Nat → Int → Int} {w : Nat → Nat → Int64} {rf : Nat → Nat → Option Nat} {F : Int32 → Option α}  {z : Int} (hS : SCok S)  (h : 0 ≤ z ∧ z < 40) : ldI S (mk Q w rf) (240) (I z) F = F (I (Q (240) z)) := ldI_mk hS.2.2.2.2.2.2.2.2.2.2.2.2.2.2.2.2.2.2.2.2.2.2.2.1 h (by decide)
theorem stC240 {α : Type} {S : Nat → Nat × Nat} {Q : Nat → Int → Int} {w : Nat → Nat → Int64} {rf : Nat → Nat → Option Nat} {F : mm → Option α}  {z y : Int} (hS : SCok S)  (h : 0 ≤ z ∧ z < 40) : stI S (mk Q w rf) (240) (I z) (I y) F = F (mk (setR Q (240) (updf (Q (240)) z y)) w rf) := stI_mk hS.2.2.2.2.2.2.2.2.2.2.2.2.2.2.2.2.2.2.2.2.2.2.2.1 h (by decide)
theorem ldC269 {α : Type} {S : Nat → Nat × Nat} {Q : Nat → Int → Int} {w : Nat → Nat → Int64} {rf : Nat → Nat → Option Nat} {F : Int32 → Option α}  {z : Int} (hS : SCok S)  (h : 0 ≤ z ∧ z < 40) : ldI S (mk Q w rf) (269) (I z) F = F (I (Q (269) z)) := ldI_mk hS.2.2.2.2.2.2.2.2.2.2.2.2.2.2.2.2.2.2.2.2.2.2.2.2.2.1 h (by decide)
theorem stC269 {α : Type} {S : Nat → Nat × Nat} {Q : Nat → Int → Int} {w : Nat → Nat → Int64} {rf : Nat → Nat → Option Nat} {F : mm → Option α}  {z y : Int} (hS : SCok S)  (h : 0 ≤ z ∧ z < 40) : stI S (mk Q w rf) (269) (I z) (I y) F = F (mk (setR Q (269) (updf (Q (269)) z y)) w rf) := stI_mk hS.2.2.2.2.2.2.2.2.2.2.2.2.2.2.2.2.2.2.2.2.2.2.2.2.2.1 h (by decide)
theorem ldC270 {α : Type} {S : Nat → Nat × Nat} {Q : Nat → Int → Int} {w : Nat → Nat → Int64} {rf : Nat → Nat → Option Nat} {F : Int32 → Option α}  {z : Int} (hS : SCok S)  (h : 0 ≤ z ∧ z < 40) : ldI S (mk Q w rf) (270) (I z) F = F (I (Q (270) z)) := ldI_mk hS.2.2.2.2.2.2.2.2.2.2.2.2.2.2.2.2.2.2.2.2.2.2.2.2.2.2.1 h (by decide)
theorem stC270 {α : Type} {S : Nat → Nat × Nat} {Q : Nat → Int → Int} {w : Nat → Nat → Int64} {rf : Nat → Nat → Option Nat} {F : mm → Option α}  {z y : Int} (hS : SCok S)  (h : 0 ≤ z ∧ z < 40) : stI S (mk Q w rf) (270) (I z) (I y) F = F (mk (setR Q (270) (updf (Q (270)) z y)) w rf) := stI_mk hS.2.2.2.2.2.2.2.2.2.2.2.2.2.2.2.2.2.2.2.2.2.2.2.2.2.2.1 h (by decide)
