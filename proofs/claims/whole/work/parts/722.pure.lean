def mb (x : Int32) (k : Int) : Int := (((x.toUInt32 >>> ((I k).toUInt32 &&& Int32.toUInt32 (I 31))).toInt32) &&& I 255).toInt
def cb (x : Int32) (k : Int) : Int := ((x >>> (I k &&& I 31)).toInt8.toInt32.toInt8.toInt32).toInt
theorem bv_low {y : BitVec 32} {b : BitVec 8} (h : y.setWidth 8 = b) : ((y &&& 255#32).toInt = b.toNat) := by
  have h1 : (y &&& 255#32).toNat = b.toNat := by
    rw [← h, BitVec.toNat_and, BitVec.toNat_setWidth]
    show y.toNat &&& (2 ^ 8 - 1) = _
    rw [Nat.and_two_pow_sub_one_eq_mod]
  rw [BitVec.toInt_eq_toNat_of_lt (by rw [h1]; have := b.isLt; omega), h1]
theorem bv_sb {b : BitVec 8} : b.toInt = sb (b.toNat : Int) := by
  rw [BitVec.toInt_eq_toNat_cond]
  unfold sb
  have := b.isLt
  split <;> split <;> omega
theorem bv_u {y k : BitVec 32} {m i : Nat} (hk : k.toNat = m) (hi : i < 8) : (BitVec.setWidth 8 (y >>> k)).getLsbD i = y.getLsbD (m + i) := by
  rw [BitVec.getLsbD_setWidth]
  have : y >>> k = y >>> k.toNat := rfl
  rw [this, BitVec.getLsbD_ushiftRight, hk]
  simp [hi]
theorem bv_s {y : BitVec 32} {m i : Nat} (hi : i < 8) (hm : m + i < 32) : (BitVec.setWidth 8 (y.sshiftRight m)).getLsbD i = y.getLsbD (m + i) := by
  rw [BitVec.getLsbD_setWidth, BitVec.getLsbD_sshiftRight]
  simp [hi, hm]
  omega
theorem cb_sb {x : Int32} {k : Int} (hk : k = 24 ∨ k = 16 ∨ k = 8 ∨ k = 0) : (0 ≤ mb x k ∧ mb x k ≤ 255) ∧ cb x k = sb (mb x k) := by
  have key : ∃ b : BitVec 8, mb x k = b.toNat ∧ cb x k = b.toInt := by
    refine ⟨(x.toBitVec.sshiftRight k.toNat).setWidth 8, ?_, ?_⟩
    · unfold mb
      have : ((((x.toUInt32 >>> ((I k).toUInt32 &&& Int32.toUInt32 (I 31))).toInt32) &&& I 255)).toInt = ((((x.toUInt32 >>> ((I k).toUInt32 &&& Int32.toUInt32 (I 31))).toInt32)).toBitVec &&& 255#32).toInt := rfl
      rw [this]
      apply bv_low
      have e : (((I k).toUInt32 &&& Int32.toUInt32 (I 31)).toBitVec % 32).toNat = k.toNat := by
        rcases hk with h | h | h | h <;> subst h <;> decide
      apply BitVec.eq_of_getLsbD_eq
      intro i hi
      simp only [UInt32.toBitVec_toInt32, UInt32.toBitVec_shiftRight]
      rw [bv_u e hi, bv_s hi (by omega)]
      rfl
    · unfold cb
      have e : ((I k &&& I 31).toBitVec.smod 32).toNat = k.toNat := by
        rcases hk with h | h | h | h <;> subst h <;> decide
      rw [Int8.toInt8_toInt32, Int8.toInt_toInt32]
      show (x >>> (I k &&& I 31)).toInt8.toBitVec.toInt = _
      rw [Int32.toBitVec_toInt8, BitVec.signExtend_eq_setWidth_of_le _ (by omega), Int32.toBitVec_shiftRight]
      congr 2
      show BitVec.sshiftRight _ _ = _
      rw [e]
  obtain ⟨b, h1, h2⟩ := key
  rw [h1, h2, bv_sb]
  have := b.isLt
  exact ⟨by omega, rfl⟩
theorem mb_I {x : Int32} {k : Int} : ((x.toUInt32 >>> ((I k).toUInt32 &&& Int32.toUInt32 (I 31))).toInt32) &&& I 255 = I (mb x k) := (I_of _).symm
def upd4 (N : Int → Int) (n : Int) (f : Int → Int) : Int → Int := updf (updf (updf (updf N n (f 24)) (n + 1) (f 16)) (n + 2) (f 8)) (n + 3) (f 0)
theorem loop_st {α β : Type} {f : α → Option (α ⊕ β)} {s s' : α} {n : Nat} (h : f s = some (.inl s')) : loopN f (n + 1) s = loopN f n s' := by
  simp only [loopN, h]
theorem loop_ex {α β : Type} {f : α → Option (α ⊕ β)} {s : α} {r : β} {n : Nat} (h : f s = some (.inr r)) : loopN f (n + 1) s = some r := by
  simp only [loopN, h]
theorem M_come1 {S : Nat → Nat × Nat} {R : Nat → Int → Int} {w : Nat → Nat → Int64} {rf : Nat → Nat → Option Nat} {n k : Int} {x : Int32} (hS : SMok S) (hr : RMok rf) (hn : R 64 2 = n) (hb : 0 ≤ n ∧ n < 940) (hk : 0 ≤ k ∧ k ≤ 24) : fX13_come_L3 S 64 x (I k, mk R w rf) = some (.inl (I (k - 8), mk (setR (setR R 65 (updf (R 65) n (mb x k))) 64 (updf (R 64) 2 (n + 1))) w rf)) := by
  have h1 : ¬ (k < 0) := by omega
  simp (disch := first | assumption | omega) only [fX13_come_L3, I_lit, orb_I, I_add, I_sub, I_mul, I_neg, nm_eq, bd0_s, bd2_s, un2_eq, un3_eq, un4_eq, un5_eq, un6_eq, cs2_l, cs2_r, mk_1, mk_2, wI_mk, wL_mk, wR_mk, setR_same, setR_setR, rZ_0, rZ_1, rZ_b2, it_b2, it_nb2, it_b21, it_nb21, I_lt, I_le, I_eq, I_div, castI, if_true, if_false, Classical.not_not, h1, gM1, hn, mb_I, stM65, setR_ne]
  rfl
theorem C_app1 {S : Nat → Nat × Nat} {Q : Nat → Int → Int} {w : Nat → Nat → Int64} {rf : Nat → Nat → Option Nat} {n k : Int} {x : Int32} (hS : SCok S) (hr : RCok rf) (hn : Q 65 1 = n) (hb : 0 ≤ n ∧ n < 940) (hk : 0 ≤ k ∧ k ≤ 24) : fX8_append_L3 S 65 x (I k, mk Q w rf) = some (.inl (I (k - 8), mk (setR (setR Q 66 (updf (Q 66) n (cb x k))) 65 (updf (Q 65) 1 (n + 1))) w rf)) := by
  have h1 : ¬ (k < 0) := by omega
  have h2 : ¬ (940 ≤ n) := by omega
  have s66 : (S 66).2 = 940 := hS.2.2.1
  simp (disch := first | assumption | omega) only [fX8_append_L3, I_lit, orb_I, I_add, I_sub, I_mul, I_neg, nm_eq, bd0_s, bd2_s, un2_eq, un3_eq, un4_eq, un5_eq, un6_eq, cs2_l, cs2_r, mk_1, mk_2, wI_mk, wL_mk, wR_mk, setR_same, setR_setR, rZ_0, rZ_1, rZ_b2, it_b2, it_nb2, it_b21, it_nb21, I_lt, I_le, I_eq, I_div, castI, if_true, if_false, Classical.not_not, h1, gC65_0, hn, h2]
  rw [stB_mk s66 (by omega) (by omega)]
  simp (disch := first | assumption | omega) only [I_lit, orb_I, I_add, I_sub, I_mul, I_neg, nm_eq, bd0_s, bd2_s, un2_eq, un3_eq, un4_eq, un5_eq, un6_eq, cs2_l, cs2_r, mk_1, mk_2, wI_mk, wL_mk, wR_mk, setR_same, setR_setR, rZ_0, rZ_1, rZ_b2, it_b2, it_nb2, it_b21, it_nb21, I_lt, I_le, I_eq, I_div, castI, if_true, if_false, Classical.not_not, setR_ne, hn]
  rfl
theorem M_come {S : Nat → Nat × Nat} {R : Nat → Int → Int} {w : Nat → Nat → Int64} {rf : Nat → Nat → Option Nat} {n : Int} {x : Int32} (hS : SMok S) (hr : RMok rf) (hn : R 64 2 = n) (hb : 0 ≤ n ∧ n + 4 ≤ 940) : ∃ R', fX13_come S (mk R w rf) 64 x = some (mk R' w rf) ∧ R' 64 = updf (R 64) 2 (n + 4) ∧ R' 65 = upd4 (R 65) n (mb x) ∧ ∀ a, a ≠ 64 → a ≠ 65 → R' a = R a := by
  refine ⟨setR (setR R 65 (upd4 (R 65) n (mb x))) 64 (updf (R 64) 2 (n + 4)), ?_, ?_, ?_, ?_⟩
  · have e : ∀ (R1 : Nat → Int → Int), setR (setR (setR (setR R 65 (R1 65)) 64 (R1 64)) 65 (R1 66)) 64 (R1 67) = setR (setR R 65 (R1 66)) 64 (R1 67) := by
      intro R1
      funext a
      by_cases h : a = 64
      · rw [h, setR_same, setR_same]
      · rw [setR_ne h, setR_ne h]
        by_cases h2 : a = 65
        · rw [h2, setR_same, setR_same]
        · rw [setR_ne h2, setR_ne h2, setR_ne h, setR_ne h2]
    have e' : ∀ (A B C D : Int → Int), setR (setR (setR (setR R 65 A) 64 B) 65 C) 64 D = setR (setR R 65 C) 64 D := fun A B C D => e (fun a => if a = 65 then A else if a = 64 then B else if a = 66 then C else D)
    have s0 := M_come1 (w := w) (rf := rf) (x := x) (k := 24) hS hr hn (by omega) (by omega)
    have s1 := M_come1 (S := S) (w := w) (rf := rf) (x := x) (k := 24 - 8) (n := n + 1) (R := setR (setR R 65 (updf (R 65) n (mb x 24))) 64 (updf (R 64) 2 (n + 1))) hS hr (by rw [setR_same, updf_same rfl]) (by omega) (by omega)
    rw [setR_same, setR_ne (a := 64) (b := 65) (by omega), setR_same, e', updf_updf] at s1
    have s2 := M_come1 (S := S) (w := w) (rf := rf) (x := x) (k := 24 - 8 - 8) (n := n + 1 + 1) (R := setR (setR R 65 (updf (updf (R 65) n (mb x 24)) (n + 1) (mb x (24 - 8)))) 64 (updf (R 64) 2 (n + 1 + 1))) hS hr (by rw [setR_same, updf_same rfl]) (by omega) (by omega)
    rw [setR_same, setR_ne (a := 64) (b := 65) (by omega), setR_same, e', updf_updf] at s2
    have s3 := M_come1 (S := S) (w := w) (rf := rf) (x := x) (k := 24 - 8 - 8 - 8) (n := n + 1 + 1 + 1) (R := setR (setR R 65 (updf (updf (updf (R 65) n (mb x 24)) (n + 1) (mb x (24 - 8))) (n + 1 + 1) (mb x (24 - 8 - 8)))) 64 (updf (R 64) 2 (n + 1 + 1 + 1))) hS hr (by rw [setR_same, updf_same rfl]) (by omega) (by omega)
    rw [setR_same, setR_ne (a := 64) (b := 65) (by omega), setR_same, e', updf_updf] at s3
    have s4 : ∀ σ : mm, fX13_come_L3 S 64 x (I (24 - 8 - 8 - 8 - 8), σ) = some (.inr σ) := fun σ => by
      simp (disch := first | assumption | omega) only [fX13_come_L3, I_lit, orb_I, I_add, I_sub, I_mul, I_neg, nm_eq, bd0_s, bd2_s, un2_eq, un3_eq, un4_eq, un5_eq, un6_eq, cs2_l, cs2_r, mk_1, mk_2, wI_mk, wL_mk, wR_mk, setR_same, setR_setR, rZ_0, rZ_1, rZ_b2, it_b2, it_nb2, it_b21, it_nb21, I_lt, I_le, I_eq, I_div, castI, if_true, if_false, Classical.not_not]
      rfl
    have l : loopN (fX13_come_L3 S 64 x) 1000 ((24 : Int32), mk R w rf) = some (mk (setR (setR R 65 (upd4 (R 65) n (mb x))) 64 (updf (R 64) 2 (n + 4))) w rf) := by
      have a0 : ((24 : Int32), mk R w rf) = (I 24, mk R w rf) := rfl
      rw [a0, show (1000 : Nat) = 995 + 1 + 1 + 1 + 1 + 1 from rfl, loop_st s0, loop_st s1, loop_st s2, loop_st s3, loop_ex (s4 _)]
      have g1 : n + 1 + 1 = n + 2 := by omega
      have g2 : n + 2 + 1 = n + 3 := by omega
      have g3 : n + 3 + 1 = n + 4 := by omega
      rw [g1, g2, g3]
      rfl
    simp only [fX13_come, l]
    rfl
  · rw [setR_same]
  · rw [setR_ne (by omega), setR_same]
  · intro a h1 h2
    rw [setR_ne h1, setR_ne h2]
theorem C_append {S : Nat → Nat × Nat} {Q : Nat → Int → Int} {w : Nat → Nat → Int64} {rf : Nat → Nat → Option Nat} {n : Int} {x : Int32} (hS : SCok S) (hr : RCok rf) (hn : Q 65 1 = n) (hb : 0 ≤ n ∧ n + 4 ≤ 940) : ∃ Q', fX8_append S (mk Q w rf) 65 x = some (mk Q' w rf) ∧ Q' 65 1 = n + 4 ∧ Q' 66 = upd4 (Q 66) n (cb x) ∧ ∀ a, a ≠ 65 → a ≠ 66 → Q' a = Q a := by
  refine ⟨setR (setR Q 66 (upd4 (Q 66) n (cb x))) 65 (updf (Q 65) 1 (n + 4)), ?_, ?_, ?_, ?_⟩
  · have e' : ∀ (A B C D : Int → Int), setR (setR (setR (setR Q 66 A) 65 B) 66 C) 65 D = setR (setR Q 66 C) 65 D := by
      intro A B C D
      funext a
      by_cases h : a = 65
      · rw [h, setR_same, setR_same]
      · rw [setR_ne h, setR_ne h]
        by_cases h2 : a = 66
        · rw [h2, setR_same, setR_same]
        · rw [setR_ne h2, setR_ne h2, setR_ne h, setR_ne h2]
    have s0 := C_app1 (w := w) (x := x) (k := 24) hS hr hn (by omega) (by omega)
    have s1 := C_app1 (S := S) (w := w) (rf := rf) (x := x) (k := 24 - 8) (n := n + 1) (Q := setR (setR Q 66 (updf (Q 66) n (cb x 24))) 65 (updf (Q 65) 1 (n + 1))) hS hr (by rw [setR_same, updf_same rfl]) (by omega) (by omega)
    rw [setR_same, setR_ne (a := 65) (b := 66) (by omega), setR_same, e', updf_updf] at s1
    have s2 := C_app1 (S := S) (w := w) (rf := rf) (x := x) (k := 24 - 8 - 8) (n := n + 1 + 1) (Q := setR (setR Q 66 (updf (updf (Q 66) n (cb x 24)) (n + 1) (cb x (24 - 8)))) 65 (updf (Q 65) 1 (n + 1 + 1))) hS hr (by rw [setR_same, updf_same rfl]) (by omega) (by omega)
    rw [setR_same, setR_ne (a := 65) (b := 66) (by omega), setR_same, e', updf_updf] at s2
    have s3 := C_app1 (S := S) (w := w) (rf := rf) (x := x) (k := 24 - 8 - 8 - 8) (n := n + 1 + 1 + 1) (Q := setR (setR Q 66 (updf (updf (updf (Q 66) n (cb x 24)) (n + 1) (cb x (24 - 8))) (n + 1 + 1) (cb x (24 - 8 - 8)))) 65 (updf (Q 65) 1 (n + 1 + 1 + 1))) hS hr (by rw [setR_same, updf_same rfl]) (by omega) (by omega)
    rw [setR_same, setR_ne (a := 65) (b := 66) (by omega), setR_same, e', updf_updf] at s3
    have s4 : ∀ σ : mm, fX8_append_L3 S 65 x (I (24 - 8 - 8 - 8 - 8), σ) = some (.inr σ) := fun σ => by
      simp (disch := first | assumption | omega) only [fX8_append_L3, I_lit, orb_I, I_add, I_sub, I_mul, I_neg, nm_eq, bd0_s, bd2_s, un2_eq, un3_eq, un4_eq, un5_eq, un6_eq, cs2_l, cs2_r, mk_1, mk_2, wI_mk, wL_mk, wR_mk, setR_same, setR_setR, rZ_0, rZ_1, rZ_b2, it_b2, it_nb2, it_b21, it_nb21, I_lt, I_le, I_eq, I_div, castI, if_true, if_false, Classical.not_not]
      rfl
    have l : loopN (fX8_append_L3 S 65 x) 1000 ((24 : Int32), mk Q w rf) = some (mk (setR (setR Q 66 (upd4 (Q 66) n (cb x))) 65 (updf (Q 65) 1 (n + 4))) w rf) := by
      have a0 : ((24 : Int32), mk Q w rf) = (I 24, mk Q w rf) := rfl
      rw [a0, show (1000 : Nat) = 995 + 1 + 1 + 1 + 1 + 1 from rfl, loop_st s0, loop_st s1, loop_st s2, loop_st s3, loop_ex (s4 _)]
      have g1 : n + 1 + 1 = n + 2 := by omega
      have g2 : n + 2 + 1 = n + 3 := by omega
      have g3 : n + 3 + 1 = n + 4 := by omega
      rw [g1, g2, g3]
      rfl
    simp only [fX8_append, l]
    rfl
  · rw [setR_same, updf_same rfl]
  · rw [setR_ne (by omega), setR_same]
  · intro a h1 h2
    rw [setR_ne h1, setR_ne h2]
theorem tape4 {q r : Int → Int} {n : Int} {x : Int32} (h0 : 0 ≤ n) (h : ∀ i, 0 ≤ i → i < n → (0 ≤ r i ∧ r i ≤ 255) ∧ q i = sb (r i)) : ∀ i, 0 ≤ i → i < n + 4 → (0 ≤ upd4 r n (mb x) i ∧ upd4 r n (mb x) i ≤ 255) ∧ upd4 q n (cb x) i = sb (upd4 r n (mb x) i) := by
  intro i h1 h2
  unfold upd4
  by_cases e3 : i = n + 3
  · rw [updf_same e3, updf_same e3]; exact cb_sb (by omega)
  rw [updf_ne e3, updf_ne e3]
  by_cases e2 : i = n + 2
  · rw [updf_same e2, updf_same e2]; exact cb_sb (by omega)
  rw [updf_ne e2, updf_ne e2]
  by_cases e1 : i = n + 1
  · rw [updf_same e1, updf_same e1]; exact cb_sb (by omega)
  rw [updf_ne e1, updf_ne e1]
  by_cases e0 : i = n
  · rw [updf_same e0, updf_same e0]; exact cb_sb (by omega)
  rw [updf_ne e0, updf_ne e0]
  exact h i h1 (by omega)
theorem INV_tape {Q Q' : Nat → Int → Int} {w : Nat → Nat → Int64} {rf : Nat → Nat → Option Nat} {R R' : Nat → Int → Int} {v : Nat → Nat → Int64} (inv : INV Q w rf R v) (hq : ∀ a, a ≠ 65 → a ≠ 66 → Q' a = Q a) (hm : ∀ a, a ≠ 64 → a ≠ 65 → R' a = R a) (h64 : ∀ j, j ≠ 2 → R' 64 j = R 64 j) (ta' : tapeR (Q' 66) (Q' 65 1) (R' 64 2) (R' 65)) : INV Q' w rf R' v := by
  obtain ⟨ta, ⟨wf, cp, nam⟩, ⟨lo, cl⟩, ur, fa, wk, ro, se, im, sw⟩ := inv
  refine ⟨ta', ⟨?_, ?_, ?_⟩, ⟨?_, ?_⟩, ?_, ?_, ?_, ?_, ?_, ?_, sw⟩
  · rw [hm 66 (by omega) (by omega)]; exact wf
  · rw [hm 66 (by omega) (by omega)]; exact CP_q cp (fun a h1 h2 => hq a (by omega) (by omega))
  · rw [hm 66 (by omega) (by omega)]; exact nam
  · rw [hm 66 (by omega) (by omega)]; exact lo
  · rw [hm 66 (by omega) (by omega)]; exact CL_q cl (fun a h1 h2 => hq a (by omega) (by omega))
  · rw [h64 23 (by omega), hm 66 (by omega) (by omega), hm 69 (by omega) (by omega)]
    exact UR_q ur wf (fun a h => hq a (by omega) (by omega)) rfl (AgP_refl _)
  · rw [hq 64 (by omega) (by omega), h64 10 (by omega)]; exact fa
  · rw [hq 189 (by omega) (by omega), hq 192 (by omega) (by omega), h64 28 (by omega), hm 77 (by omega) (by omega)]; exact wk
  · rw [hq 193 (by omega) (by omega), h64 37 (by omega), hm 80 (by omega) (by omega)]; exact ro
  · rw [hq 199 (by omega) (by omega), hq 200 (by omega) (by omega), hq 197 (by omega) (by omega), hm 66 (by omega) (by omega)]; exact se
  · rw [hm 68 (by omega) (by omega), hm 74 (by omega) (by omega)]
    exact imgR_q im (fun a h => hq a (by omega) (by omega)) (fun a h => rfl) rfl rfl
theorem feed1 {S S' : Nat → Nat × Nat} {Q : Nat → Int → Int} {w : Nat → Nat → Int64} {rf : Nat → Nat → Option Nat} {R : Nat → Int → Int} {v : Nat → Nat → Int64} {rm : Nat → Nat → Option Nat} {n : Int} {x : Int32} (hS : SCok S) (hS' : SMok S') (hr : RCok rf) (hr' : RMok rm) (inv : INV Q w rf R v) (hn : R 64 2 = n) (hb : 0 ≤ n ∧ n + 4 ≤ 940) : ∃ Q' R', fX8_append S (mk Q w rf) 65 x = some (mk Q' w rf) ∧ fX13_come S' (mk R v rm) 64 x = some (mk R' v rm) ∧ INV Q' w rf R' v ∧ R' 64 2 = n + 4 ∧ R' 64 32 = R 64 32 ∧ R' 78 = R 78 := by
  obtain ⟨t1, t2, t3⟩ := inv.1
  obtain ⟨Q', a1, a2, a3, a4⟩ := C_append (w := w) (x := x) hS hr (t1.trans hn) hb
  obtain ⟨R', b1, b2, b3, b4⟩ := M_come (w := v) (x := x) hS' hr' hn hb
  have e2 : R' 64 2 = n + 4 := by rw [b2, updf_same rfl]
  refine ⟨Q', R', a1, b1, INV_tape inv a4 b4 (fun j hj => by rw [b2, updf_ne hj]) ⟨?_, ?_, ?_⟩, e2, ?_, b4 78 (by omega) (by omega)⟩
  · rw [a2, e2]
  · rw [e2]; omega
  · rw [e2, a3, b3]
    exact tape4 hb.1 (by rw [← hn]; exact t3)
  · rw [b2, updf_ne (by omega)]
theorem op_feed {S S' : Nat → Nat × Nat} (hS : SCok S) (hS' : SMok S') (a1 a2 a3 a4 a5 : Int32) : OpC1 (fun σ => fX12_feed S σ 64 a1 a2 a3 a4 a5) (fun σ => fX13_feed S' σ 64 a1 a2 a3 a4 a5) := by
  intro t σC σM ⟨Q, w, rf, R, v, rm, q1, q2, hr, hr', inv, tx⟩; subst q1; subst q2
  have inv0 := INV_th inv
  have r2 : th0 R 64 2 = R 64 2 := th0_64 (by omega)
  have ta := inv.1
  have tb := ta.2.1
  by_cases h : R 64 2 + 20 ≤ 940
  · obtain ⟨Q1, R1, c1, d1, i1, n1, x1, y1⟩ := feed1 (S := S) (S' := S') (R := th0 R) (n := R 64 2) (x := a1) hS hS' hr hr' inv0 r2 (by omega)
    obtain ⟨Q2, R2, c2, d2, i2, n2, x2, y2⟩ := feed1 (S := S) (S' := S') (x := a2) hS hS' hr hr' i1 n1 (by omega)
    obtain ⟨Q3, R3, c3, d3, i3, n3, x3, y3⟩ := feed1 (S := S) (S' := S') (x := a3) hS hS' hr hr' i2 n2 (by omega)
    obtain ⟨Q4, R4, c4, d4, i4, n4, x4, y4⟩ := feed1 (S := S) (S' := S') (x := a4) hS hS' hr hr' i3 n3 (by omega)
    obtain ⟨Q5, R5, c5, d5, i5, n5, x5, y5⟩ := feed1 (S := S) (S' := S') (x := a5) hS hS' hr hr' i4 n4 (by omega)
    have h1 : ¬ (940 < R 64 2 + 20) := by omega
    refine ⟨I (R5 64 2), mk Q5 w rf, mk R5 v rm, ?_, ?_, Q5, w, rf, R5, v, rm, rfl, rfl, hr, hr', i5, ?_⟩
    · simp (disch := first | assumption | omega) only [fX12_feed, fX8_hasRoom, fX8_hasRoom_b18, I_lit, orb_I, I_add, I_sub, I_mul, I_neg, nm_eq, bd0_s, bd2_s, un2_eq, un3_eq, un4_eq, un5_eq, un6_eq, cs2_l, cs2_r, mk_1, mk_2, wI_mk, wL_mk, wR_mk, setR_same, setR_setR, rZ_0, rZ_1, rZ_b2, it_b2, it_nb2, it_b21, it_nb21, I_lt, I_le, I_eq, I_div, castI, if_true, if_false, Classical.not_not, gC64_0, ta.1, h1, Int.reduceEq, not_false_eq_true, c1, c2, c3, c4, c5, i5.1.1]
    · simp only [fX13_feed, th0_I]
      simp (disch := first | assumption | omega) only [I_lit, orb_I, I_add, I_sub, I_mul, I_neg, nm_eq, bd0_s, bd2_s, un2_eq, un3_eq, un4_eq, un5_eq, un6_eq, cs2_l, cs2_r, mk_1, mk_2, wI_mk, wL_mk, wR_mk, setR_same, setR_setR, rZ_0, rZ_1, rZ_b2, it_b2, it_nb2, it_b21, it_nb21, I_lt, I_le, I_eq, I_div, castI, if_true, if_false, Classical.not_not, r2, h, d1, d2, d3, d4, d5]
    · rw [x5, x4, x3, x2, x1, y5, y4, y3, y2, y1]; exact tx0 tx
  · have h1 : (940 < R 64 2 + 20) := by omega
    refine ⟨I (-1), mk Q w rf, mk (th0 R) v rm, ?_, ?_, Q, w, rf, th0 R, v, rm, rfl, rfl, hr, hr', inv0, tx0 tx⟩
    · simp (disch := first | assumption | omega) only [fX12_feed, fX8_hasRoom, fX8_hasRoom_b18, I_lit, orb_I, I_add, I_sub, I_mul, I_neg, nm_eq, bd0_s, bd2_s, un2_eq, un3_eq, un4_eq, un5_eq, un6_eq, cs2_l, cs2_r, mk_1, mk_2, wI_mk, wL_mk, wR_mk, setR_same, setR_setR, rZ_0, rZ_1, rZ_b2, it_b2, it_nb2, it_b21, it_nb21, I_lt, I_le, I_eq, I_div, castI, if_true, if_false, Classical.not_not, gC64_0, ta.1, h1, Int.reduceEq, not_true]
    · simp only [fX13_feed, th0_I]
      simp (disch := first | assumption | omega) only [I_lit, orb_I, I_add, I_sub, I_mul, I_neg, nm_eq, bd0_s, bd2_s, un2_eq, un3_eq, un4_eq, un5_eq, un6_eq, cs2_l, cs2_r, mk_1, mk_2, wI_mk, wL_mk, wR_mk, setR_same, setR_setR, rZ_0, rZ_1, rZ_b2, it_b2, it_nb2, it_b21, it_nb21, I_lt, I_le, I_eq, I_div, castI, if_true, if_false, Classical.not_not, r2, h]
