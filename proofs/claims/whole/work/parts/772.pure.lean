theorem bI {x : Nat} : (I (x : Int)).toBitVec = BitVec.ofNat 32 x := by
  show BitVec.ofInt 32 (x : Int) = _
  exact BitVec.ofInt_natCast 32 x
theorem bN {x : Nat} (h : x < 4294967296) : (I (x : Int)).toBitVec.toNat = x := by
  rw [bI, BitVec.toNat_ofNat]
  exact Nat.mod_eq_of_lt h
theorem I_of_toNat {y : Int32} {x : Nat} (h : y.toBitVec.toNat = x) (hx : x < 4294967296) : y = I (x : Int) := by
  rw [← Int32.toBitVec_inj]
  apply BitVec.eq_of_toNat_eq
  rw [h, bN hx]
theorem n_or {x z : Nat} (hz : z < 2) : (2 * x) ||| z = 2 * x + z := by
  have := Nat.shiftLeft_add_eq_or_of_lt (i := 1) (b := z) (by omega) x
  rw [Nat.shiftLeft_eq] at this
  have e : 2 * x = x * 2 ^ 1 := by omega
  rw [e, this]
theorem n_tb {x z : Nat} (hz : z < 2) (i : Nat) : (2 * x + z).testBit (i + 1) = x.testBit i := by
  rw [Nat.testBit_succ]
  congr 1
  omega
theorem n_tb0 {x z : Nat} (hz : z < 2) : (2 * x + z).testBit 0 = decide (z = 1) := by
  rw [Nat.testBit_zero]
  have : (2 * x + z) % 2 = z := by omega
  rw [this]
theorem n_xor {x z : Nat} (hz : z < 2) : (2 * x + z) ^^^ 1 = 2 * x + (1 - z) := by
  apply Nat.eq_of_testBit_eq
  intro i
  have e1 : (1 : Nat) = 2 * 0 + 1 := rfl
  cases i with
  | zero =>
    rw [Nat.testBit_xor, n_tb0 hz, n_tb0 (by omega)]
    have : z = 0 ∨ z = 1 := by omega
    rcases this with h | h <;> subst h <;> rfl
  | succ i =>
    rw [Nat.testBit_xor, n_tb hz, n_tb (by omega)]
    have : Nat.testBit 1 (i + 1) = false := by
      rw [Nat.testBit_succ]
      exact Nat.zero_testBit i
    rw [this, Bool.xor_false]
theorem n_and2 {x z : Nat} (hz : z < 2) (hx : x < 2147483648) : (2 * x + z) &&& 4294967294 = 2 * x := by
  apply Nat.eq_of_testBit_eq
  intro i
  have e2 : (2 * x).testBit i = (2 * x + 0).testBit i := rfl
  rw [e2]
  cases i with
  | zero =>
    rw [Nat.testBit_and, n_tb0 hz, n_tb0 (by omega)]
    have : Nat.testBit 4294967294 0 = false := by decide
    rw [this, Bool.and_false]
    rfl
  | succ i =>
    rw [Nat.testBit_and, n_tb hz, n_tb (by omega)]
    have : Nat.testBit 4294967294 (i + 1) = decide (i < 31) := by
      rw [Nat.testBit_succ]
      show Nat.testBit (2 ^ 31 - 1) i = _
      exact Nat.testBit_two_pow_sub_one 31 i
    rw [this]
    by_cases h : i < 31
    · rw [decide_eq_true h, Bool.and_true]
    · have h2 : x.testBit i = false := Nat.testBit_lt_two_pow (Nat.lt_of_lt_of_le (show x < 2 ^ 31 from hx) (Nat.pow_le_pow_right (show 0 < 2 from Nat.zero_lt_two) (by omega : 31 ≤ i)))
      rw [h2]
      rfl
theorem i_or {x z : Nat} (hx : x < 1073741824) (hz : z < 2) : I ((2 * x : Nat) : Int) ||| I (z : Int) = I ((2 * x + z : Nat) : Int) := by
  refine I_of_toNat ?_ (by omega)
  rw [Int32.toBitVec_or, BitVec.toNat_or, bN (by omega), bN (by omega), n_or hz]
theorem i_and1 {x z : Nat} (hx : x < 1073741824) (hz : z < 2) : I ((2 * x + z : Nat) : Int) &&& I 1 = I (z : Int) := by
  refine I_of_toNat ?_ (by omega)
  have e : (I 1).toBitVec.toNat = 1 := by decide
  rw [Int32.toBitVec_and, BitVec.toNat_and, bN (by omega), e, Nat.and_one_is_mod]
  omega
theorem i_xor1 {x z : Nat} (hx : x < 1073741824) (hz : z < 2) : I ((2 * x + z : Nat) : Int) ^^^ I 1 = I ((2 * x + (1 - z) : Nat) : Int) := by
  refine I_of_toNat ?_ (by omega)
  have e : (I 1).toBitVec.toNat = 1 := by decide
  rw [Int32.toBitVec_xor, BitVec.toNat_xor, bN (by omega), e, n_xor hz]
theorem i_shl {x : Nat} (hx : x < 1073741824) : I (x : Int) <<< (I 1 &&& I 31) = I ((2 * x : Nat) : Int) := by
  refine I_of_toNat ?_ (by omega)
  have e6 : (I 1 &&& I 31).toBitVec.smod 32 = 1#32 := by decide
  rw [Int32.toBitVec_shiftLeft]
  have e : (BitVec.ofNat 32 x <<< (1#32)).toNat = 2 * x := by
    show (BitVec.ofNat 32 x <<< (1#32).toNat).toNat = _
    rw [BitVec.toNat_shiftLeft, BitVec.toNat_ofNat, Nat.shiftLeft_eq]
    have : (1#32).toNat = 1 := by decide
    rw [this, Nat.mod_eq_of_lt (by omega : x < 2 ^ 32), Nat.mod_eq_of_lt (by omega)]
    omega
  have e2 : (I (x : Int)).toBitVec <<< ((I 1 &&& I 31).toBitVec.smod 32) = BitVec.ofNat 32 x <<< (1#32) := by rw [e6, bI]
  exact (congrArg BitVec.toNat e2).trans e
theorem i_shr {x z : Nat} (hx : x < 1073741824) (hz : z < 2) : I ((2 * x + z : Nat) : Int) >>> (I 1 &&& I 31) = I (x : Int) := by
  refine I_of_toNat ?_ (by omega)
  have e6 : (I 1 &&& I 31).toBitVec.smod 32 = 1#32 := by decide
  rw [Int32.toBitVec_shiftRight]
  have e : ((BitVec.ofNat 32 (2 * x + z)).sshiftRight' (1#32)).toNat = x := by
    have m : (BitVec.ofNat 32 (2 * x + z)).msb = false := by
      rw [BitVec.msb_eq_false_iff_two_mul_lt, BitVec.toNat_ofNat, Nat.mod_eq_of_lt (by omega)]
      omega
    show ((BitVec.ofNat 32 (2 * x + z)).sshiftRight (1#32).toNat).toNat = _
    rw [BitVec.sshiftRight_eq_of_msb_false m, BitVec.toNat_ushiftRight, BitVec.toNat_ofNat, Nat.mod_eq_of_lt (by omega : 2 * x + z < 2 ^ 32), Nat.shiftRight_eq_div_pow]
    have : (1#32).toNat = 1 := by decide
    rw [this]
    omega
  have e2 : (I ((2 * x + z : Nat) : Int)).toBitVec.sshiftRight' ((I 1 &&& I 31).toBitVec.smod 32) = (BitVec.ofNat 32 (2 * x + z)).sshiftRight' (1#32) := by rw [e6, bI]
  exact (congrArg BitVec.toNat e2).trans e
theorem i_and {x a b : Nat} (hx : x < 536870912) (ha : a < 2) (hb : b < 2) : (I ((2 * (2 * x + a) + b : Nat) : Int) >>> (I 1 &&& I 31)) &&& ((I ((2 * (2 * x + a) + b : Nat) : Int) &&& I 1) ||| I (-2)) = I ((2 * x + a * b : Nat) : Int) := by
  rw [i_shr (by omega) hb, i_and1 (by omega) hb]
  have : b = 0 ∨ b = 1 := by omega
  rcases this with h | h <;> subst h
  · have e : (I ((0 : Nat) : Int) ||| I (-2)) = I (-2) := by decide
    rw [e]
    refine I_of_toNat ?_ (by omega)
    have e2 : (I (-2)).toBitVec.toNat = 4294967294 := by decide
    rw [Int32.toBitVec_and, BitVec.toNat_and, bN (by omega), e2, n_and2 ha (by omega)]
    omega
  · have e : (I ((1 : Nat) : Int) ||| I (-2)) = I (-1) := by decide
    rw [e]
    refine I_of_toNat ?_ (by omega)
    have e2 : (I (-1)).toBitVec = BitVec.allOnes 32 := by decide
    rw [Int32.toBitVec_and, e2, BitVec.and_allOnes, bN (by omega)]
    omega
theorem i_oo {x a b : Nat} (hx : x < 536870912) (ha : a < 2) (hb : b < 2) : (I ((2 * (2 * x + a) + b : Nat) : Int) >>> (I 1 &&& I 31)) ||| (I ((2 * (2 * x + a) + b : Nat) : Int) &&& I 1) = I ((2 * x + (a + b - a * b) : Nat) : Int) := by
  rw [i_shr (by omega) hb, i_and1 (by omega) hb]
  have : a = 0 ∨ a = 1 := by omega
  rcases this with h | h <;> subst h
  · have e : 2 * x + 0 = 2 * x := rfl
    rw [e, i_or (by omega) hb]
    congr 2
    omega
  · have : b = 0 ∨ b = 1 := by omega
    rcases this with h | h <;> subst h
    · refine I_of_toNat ?_ (by omega)
      rw [Int32.toBitVec_or, BitVec.toNat_or, bN (by omega), bN (by omega), Nat.or_zero]
    · refine I_of_toNat ?_ (by omega)
      rw [Int32.toBitVec_or, BitVec.toNat_or, bN (by omega), bN (by omega), ← n_or (by omega : 1 < 2), Nat.or_assoc, Nat.or_self, n_or (by omega)]
