def wr (R : Nat → Int → Int) (x : Int) : Nat → Int → Int := setR (setR R 78 (updf (R 78) (R 64 32) x)) 64 (updf (R 64) 32 (R 64 32 + 1))
def wrs (R : Nat → Int → Int) (l : List Int) : Nat → Int → Int := l.foldl wr R
theorem wr_n {R : Nat → Int → Int} {x : Int} : wr R x 64 32 = R 64 32 + 1 := by
  unfold wr
  rw [setR_same, updf_same rfl]
theorem wr_64 {R : Nat → Int → Int} {x j : Int} (h : j ≠ 32) : wr R x 64 j = R 64 j := by
  unfold wr
  rw [setR_same, updf_ne h]
theorem wr_78 {R : Nat → Int → Int} {x : Int} : wr R x 78 = updf (R 78) (R 64 32) x := by
  unfold wr
  rw [setR_ne (by decide), setR_same]
theorem wr_ne {R : Nat → Int → Int} {x : Int} {a : Nat} (h : a ≠ 64) (h2 : a ≠ 78) : wr R x a = R a := by
  unfold wr
  rw [setR_ne h, setR_ne h2]
theorem M_write {S' : Nat → Nat × Nat} {R : Nat → Int → Int} {v : Nat → Nat → Int64} {rm : Nat → Nat → Option Nat} {x : Int} (hS' : SMok S') (hr' : RMok rm) (h : 0 ≤ R 64 32 ∧ R 64 32 < 64) : fX13_write S' (mk R v rm) 64 (I x) = some (mk (wr R x) v rm) := by
  unfold fX13_write
  simp (disch := first | assumption | omega) only [I_lit, orb_I, I_add, I_sub, I_mul, I_neg, nm_eq, bd0_s, bd2_s, un2_eq, un3_eq, un4_eq, un5_eq, un6_eq, cs2_l, cs2_r, mk_1, mk_2, wI_mk, wL_mk, wR_mk, setR_same, setR_setR, rZ_0, rZ_1, rZ_b2, it_b2, it_nb2, it_b21, it_nb21, I_lt, I_le, I_eq, I_div, castI, if_true, if_false, Classical.not_not, gM31, stM78, setR_ne]
  rfl
theorem n27_ub : ∀ l : List Nat, (∀ d ∈ l, d ≤ 26) → ∀ a, l.foldl (fun s d => 27 * s + d) a + 1 ≤ (a + 1) * 27 ^ l.length
  | [], _, a => by simp
  | d :: l, h, a => by
    have h1 := n27_ub l (fun x hx => h x (List.mem_cons_of_mem _ hx)) (27 * a + d)
    have h2 := h d List.mem_cons_self
    rw [List.foldl_cons, List.length_cons, Nat.pow_succ]
    refine Nat.le_trans h1 ?_
    rw [Nat.mul_comm (27 ^ l.length) 27, ← Nat.mul_assoc]
    exact Nat.mul_le_mul_right _ (by omega)
theorem n27_up {l : List Nat} (h : ∀ d ∈ l, d ≤ 26) (hl : l.length ≤ 7) : n27 l < 10460353203 := by
  have h1 := n27_ub l h 0
  have h2 : 27 ^ l.length ≤ 27 ^ 7 := Nat.pow_le_pow_right (by decide) hl
  unfold n27
  have h3 : (27 : Nat) ^ 7 = 10460353203 := by decide
  omega
theorem i64_toInt {m : Nat} (h : m < 9223372036854775808) : (Int64.ofNat m).toInt = (m : Int) := by
  rw [i64_nat, Int64.toInt_ofInt_of_le (by omega) (by omega)]
theorem i64_div {m : Nat} (h : m < 1152921504606846976) : Int64.ofNat m / 27 = Int64.ofNat (m / 27) := by
  rw [← Int64.toInt_inj, i64_toInt (by omega), Int64.toInt_div, i64_toInt (by omega), show (27 : Int64).toInt = 27 from rfl, Int.tdiv_eq_ediv_of_nonneg (by omega)]
  rw [Int.bmod_eq_of_le (by omega) (by omega)]
  omega
theorem i64_rem {m : Nat} (h : m < 1152921504606846976) : (Int64.ofNat m - Int64.ofNat m / 27 * 27).toInt32 = I ((m % 27 : Nat) : Int) := by
  have h1 : Int64.ofNat m - Int64.ofNat m / 27 * 27 = Int64.ofNat (m % 27) := by
    rw [i64_div h, ← Int64.toInt_inj, Int64.toInt_sub, Int64.toInt_mul, i64_toInt (by omega), i64_toInt (by omega), i64_toInt (by omega), show (27 : Int64).toInt = 27 from rfl]
    rw [Int.bmod_eq_of_le (n := ((m / 27 : Nat) : Int) * 27) (by omega) (by omega), Int.bmod_eq_of_le (by omega) (by omega)]
    omega
  rw [h1, i64_nat, ← Int32.toInt_inj, Int64.toInt_toInt32, Int64.toInt_ofInt_of_le (by omega) (by omega), I_toInt (by omega) (by omega), Int.bmod_eq_of_le (by omega) (by omega)]
theorem i64_c27 {m : Nat} (h : m < 1152921504606846976) : lg_cmp (Int64.ofNat m) 27 < 0 ↔ m < 27 := by
  have e1 : (Int64.ofNat m < 27) ↔ m < 27 := by
    rw [Int64.lt_iff_toInt_lt, i64_toInt (by omega), show (27 : Int64).toInt = 27 from rfl]
    omega
  have e2 : (Int64.ofNat m = 27) ↔ m = 27 := by
    rw [← Int64.toInt_inj, i64_toInt (by omega), show (27 : Int64).toInt = 27 from rfl]
    omega
  have e3 : ((27 : Int64) < Int64.ofNat m) ↔ 27 < m := by
    rw [Int64.lt_iff_toInt_lt, i64_toInt (by omega), show (27 : Int64).toInt = 27 from rfl]
    omega
  unfold lg_cmp
  by_cases h1 : m < 27
  · simp [e1, e2, e3, h1, show ¬ (m = 27) by omega, show ¬ (27 < m) by omega]
  · by_cases h2 : m = 27
    · simp [e1, e2, e3, h2]
    · simp [e1, e2, e3, h1, h2, show 27 < m by omega]
def lt96 (l : List Nat) : List Int := l.map (fun d : Nat => 96 + (d : Int))
theorem wrs_app {R : Nat → Int → Int} {l : List Int} {x : Int} : wrs R (l ++ [x]) = wr (wrs R l) x := by
  unfold wrs
  rw [List.foldl_append]
  rfl
theorem wrs_n : ∀ (l : List Int) {R : Nat → Int → Int}, wrs R l 64 32 = R 64 32 + l.length
  | [], R => by simp [wrs]
  | x :: l, R => by
    have h := wrs_n l (R := wr R x)
    rw [wr_n] at h
    show wrs (wr R x) l 64 32 = _
    rw [h, List.length_cons]
    omega
theorem M_writeWord {S' : Nat → Nat × Nat} {v : Nat → Nat → Int64} {rm : Nat → Nat → Option Nat} (hS' : SMok S') (hr' : RMok rm) : ∀ (k : Nat) (l : List Nat) (R : Nat → Int → Int) (n : Nat), l.length = k + 1 → k + 1 ≤ 7 → k < n → (∀ d ∈ l, 1 ≤ d ∧ d ≤ 26) → 0 ≤ R 64 32 → R 64 32 + (k + 1) ≤ 64 → gX13_writeWord S' n 0 (mk R v rm) 64 (Int64.ofNat (n27 l)) = some (mk (wrs R (lt96 l)) v rm) := by
  intro k
  induction k with
  | zero =>
    intro l R n hl hk hn hd h0 h1
    obtain ⟨d, rfl⟩ := List.length_eq_one_iff.1 hl
    obtain ⟨n, rfl⟩ : ∃ j, n = j + 1 := ⟨n - 1, by omega⟩
    have hd1 := hd d List.mem_cons_self
    have e : n27 [d] = d := by simp [n27]
    have em : d % 27 = d := Nat.mod_eq_of_lt (by omega)
    have h2 := (i64_c27 (m := d) (by omega)).2 (by omega)
    rw [e]
    show fX13_writeWord (gX13_writeWord S' n) S' (mk R v rm) 64 (Int64.ofNat d) = _
    unfold fX13_writeWord fX13_writeWord_b17
    rw [if_pos h2, i64_rem (by omega), em, show (96 : Int32) = I 96 from rfl, I_add, M_write hS' hr' (by omega)]
    rfl
  | succ k ih =>
    intro l R n hl hk hn hd h0 h1
    obtain ⟨n, rfl⟩ : ∃ j, n = j + 1 := ⟨n - 1, by omega⟩
    rcases List.eq_nil_or_concat l with rfl | ⟨l', d, rfl⟩
    · simp at hl
    · rw [List.concat_eq_append] at hl hd ⊢
      have hl' : l'.length = k + 1 := by simpa using hl
      have hd' : ∀ x ∈ l', 1 ≤ x ∧ x ≤ 26 := fun x hx => hd x (List.mem_append_left _ hx)
      have hd1 := hd d (by simp)
      have hu := n27_up (l := l') (fun x hx => (hd' x hx).2) (by omega)
      have hp : 1 ≤ n27 l' := by
        rcases List.eq_nil_or_concat l' with rfl | ⟨l2, d2, rfl⟩
        · simp at hl'
        · rw [List.concat_eq_append] at hd' ⊢
          have := hd' d2 (by simp)
          rw [n27_app]
          omega
      have h2 : ¬ lg_cmp (Int64.ofNat (27 * n27 l' + d)) 27 < 0 := fun q => by
        have := (i64_c27 (by omega)).1 q
        omega
      rw [n27_app]
      show fX13_writeWord (gX13_writeWord S' n) S' (mk R v rm) 64 (Int64.ofNat (27 * n27 l' + d)) = _
      unfold fX13_writeWord fX13_writeWord_b17
      rw [if_neg h2, i64_div (by omega), show (27 * n27 l' + d) / 27 = n27 l' by omega, ih l' R n hl' (by omega) (by omega) hd' h0 (by omega)]
      have hn3 := wrs_n (lt96 l') (R := R)
      have hl3 : (lt96 l').length = k + 1 := by unfold lt96; rw [List.length_map]; exact hl'
      have hrem := i64_rem (m := 27 * n27 l' + d) (by omega)
      rw [i64_div (by omega), show (27 * n27 l' + d) / 27 = n27 l' by omega, show (27 * n27 l' + d) % 27 = d by omega] at hrem
      show bd0 (fX13_write S' (mk (wrs R (lt96 l')) v rm) 64 (96 + (Int64.ofNat (27 * n27 l' + d) - Int64.ofNat (n27 l') * 27).toInt32)) (fun τ1 => some τ1) = _
      rw [hrem, show (96 : Int32) = I 96 from rfl, I_add, M_write hS' hr' (by omega)]
      have e9 : lt96 (l' ++ [d]) = lt96 l' ++ [96 + (d : Int)] := by unfold lt96; simp
      rw [e9, wrs_app]
      rfl
