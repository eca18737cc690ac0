def digs : Nat → Nat → List Int
  | 0, _ => []
  | k + 1, n => if n ≤ 9 then [48 + (n : Int)] else digs k (n / 10) ++ [48 + ((n % 10 : Nat) : Int)]
theorem digs_len : ∀ k n, (digs k n).length ≤ k
  | 0, n => by simp [digs]
  | k + 1, n => by
    unfold digs
    have := digs_len k (n / 10)
    split
    · simp
    · rw [List.length_append]
      simp
      exact this
theorem M_writeNumber {S' : Nat → Nat × Nat} {v : Nat → Nat → Int64} {rm : Nat → Nat → Option Nat} (hS' : SMok S') (hr' : RMok rm) : ∀ (k : Nat) (z : Nat) (R : Nat → Int → Int) (n : Nat), z < 10 ^ k → z < 2147483648 → 1 ≤ k → k ≤ n → 0 ≤ R 64 32 → R 64 32 + k ≤ 64 → gX13_writeNumber S' n 0 (mk R v rm) 64 (I (z : Int)) = some (mk (wrs R (digs k z)) v rm) := by
  intro k
  induction k with
  | zero => intro z R n h1 h2 h3; exact absurd h3 (by decide)
  | succ k ih =>
    intro z R n h1 h2 h3 h4 h5 h6
    obtain ⟨n, rfl⟩ : ∃ j, n = j + 1 := ⟨n - 1, by omega⟩
    have hrem : I (z : Int) - I (z : Int) / (10 : Int32) * (10 : Int32) = I ((z % 10 : Nat) : Int) := by
      rw [show (10 : Int32) = I 10 from rfl]
      simp (disch := omega) only [I_lit, orb_I, I_add, I_sub, I_mul, I_neg, nm_eq, bd0_s, bd2_s, un2_eq, un3_eq, un4_eq, un5_eq, un6_eq, cs2_l, cs2_r, mk_1, mk_2, wI_mk, wL_mk, wR_mk, setR_same, setR_setR, rZ_0, rZ_1, rZ_b2, it_b2, it_nb2, it_b21, it_nb21, I_lt, I_le, I_eq, I_div, castI, if_true, if_false, Classical.not_not]
      rw [show (z : Int) - (z : Int) / 10 * 10 = ((z % 10 : Nat) : Int) by omega]
    have hdiv : I (z : Int) / (10 : Int32) = I ((z / 10 : Nat) : Int) := by
      rw [show (10 : Int32) = I 10 from rfl]
      simp (disch := omega) only [I_lit, orb_I, I_add, I_sub, I_mul, I_neg, nm_eq, bd0_s, bd2_s, un2_eq, un3_eq, un4_eq, un5_eq, un6_eq, cs2_l, cs2_r, mk_1, mk_2, wI_mk, wL_mk, wR_mk, setR_same, setR_setR, rZ_0, rZ_1, rZ_b2, it_b2, it_nb2, it_b21, it_nb21, I_lt, I_le, I_eq, I_div, castI, if_true, if_false, Classical.not_not]
      rw [show (z : Int) / 10 = ((z / 10 : Nat) : Int) by omega]
    show fX13_writeNumber (gX13_writeNumber S' n) S' (mk R v rm) 64 (I (z : Int)) = _
    unfold fX13_writeNumber fX13_writeNumber_b14 digs
    rw [hrem, show (48 : Int32) = I 48 from rfl, I_add, show ((9 : Int32)) = I 9 from rfl]
    have hle : (I (z : Int) ≤ I 9) ↔ z ≤ 9 := by
      rw [I_le (by omega) (by omega)]
      omega
    by_cases h9 : z ≤ 9
    · rw [if_pos (hle.2 h9), if_pos h9, M_write hS' hr' (by omega), show ((z % 10 : Nat) : Int) = z by omega]
      rfl
    · have hk : 1 ≤ k := by
        rcases Nat.eq_zero_or_pos k with rfl | hk
        · simp at h1; omega
        · exact hk
      have hz : z / 10 < 10 ^ k := by
        rw [Nat.pow_succ] at h1
        omega
      rw [if_neg (fun q => h9 (hle.1 q)), if_neg h9, hdiv, ih (z / 10) R n hz (by omega) hk (by omega) h5 (by omega)]
      have hn3 := wrs_n (digs k (z / 10)) (R := R)
      have hl3 := digs_len k (z / 10)
      show bd0 (fX13_write S' (mk (wrs R (digs k (z / 10))) v rm) 64 _) (fun τ1 => some τ1) = _
      rw [M_write hS' hr' (by omega), wrs_app]
      rfl
