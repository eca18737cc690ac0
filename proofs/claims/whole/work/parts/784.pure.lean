def termT (N : Int → Int) (g : Int) (T : List Int) : Prop := (lapA N g ∧ T = [32] ++ lt96 [14, 15] ++ [32] ++ lt96 [13, 15, 18, 5]) ∨ (¬ lapA N g ∧ ∃ e, EndAt N g (N 102) (N (125 + g)) e ∧ ((e = 600 ∧ T = [32] ++ lt96 [6, 15, 18] ++ [32] ++ lt96 (wl 5)) ∨ (e ≠ 600 ∧ T = [32] ++ lt96 [6, 15, 18] ++ [32] ++ digs 3 (e - N 102).toNat)))
def txt (l1 l2 : List Nat) (T : List Int) : List Int := lt96 l1 ++ [32] ++ lt96 (wl 18) ++ [32] ++ lt96 l2 ++ T
section B
variable {S' : Nat → Nat × Nat} {R : Nat → Int → Int} {v : Nat → Nat → Int64} {rm : Nat → Nat → Option Nat}
theorem W_w (hS' : SMok S') (hr' : RMok rm) (A : List Int) (h : A.length < 64) : fX13_write S' (mk (wrs (t0R R) A) v rm) 64 (32 : Int32) = some (mk (wrs (t0R R) (A ++ [32])) v rm) := by
  have h1 := wrs_n A (R := t0R R)
  rw [t0R_n] at h1
  rw [show (32 : Int32) = I 32 from rfl, M_write hS' hr' (by omega), wrs_app]
theorem W_W (hS' : SMok S') (hr' : RMok rm) (A : List Int) (l : List Nat) (hl : ∀ d ∈ l, 1 ≤ d ∧ d ≤ 26) (h1 : 1 ≤ l.length ∧ l.length ≤ 7) (h : A.length + l.length ≤ 64) : gX13_writeWord S' 100 0 (mk (wrs (t0R R) A) v rm) 64 (Int64.ofNat (n27 l)) = some (mk (wrs (t0R R) (A ++ lt96 l)) v rm) := by
  have h2 := wrs_n A (R := t0R R)
  rw [t0R_n] at h2
  rw [M_writeWord hS' hr' (l.length - 1) l _ 100 (by omega) (by omega) (by omega) hl (by omega) (by omega), wrs_cat]
theorem W_N (hS' : SMok S') (hr' : RMok rm) (A : List Int) (z : Nat) (hz : z < 1000) (h : A.length + 3 ≤ 64) : gX13_writeNumber S' 100 0 (mk (wrs (t0R R) A) v rm) 64 (I (z : Int)) = some (mk (wrs (t0R R) (A ++ digs 3 z)) v rm) := by
  have h2 := wrs_n A (R := t0R R)
  rw [t0R_n] at h2
  rw [M_writeNumber hS' hr' 3 z _ 100 (by omega) (by omega) (by omega) (by omega) (by omega) (by omega), wrs_cat]
theorem e66 (A : List Int) : wrs (t0R R) A 66 = R 66 := by rw [wrs_ne A (by decide) (by decide), t0R_ne (by decide)]
theorem W_n (A : List Int) : (mk (wrs (t0R R) A) v rm).1 64 32 = I (A.length : Int) := by
  have h2 := wrs_n A (R := t0R R)
  rw [t0R_n] at h2
  show I (wrs (t0R R) A 64 32) = _
  rw [h2, Int.zero_add]
end B
theorem t0R_I {α : Type} {R : Nat → Int → Int} {v : Nat → Nat → Int64} {rm : Nat → Nat → Option Nat} {F : mm → Option α} : wI (mk (th0 R) v rm) 64 32 (0 : Int32) F = F (mk (t0R R) v rm) := by
  rw [show (0 : Int32) = I 0 from rfl, wI_mk]
  rfl
theorem lt96_len (l : List Nat) : (lt96 l).length = l.length := by unfold lt96; rw [List.length_map]
theorem ref_banns {S' : Nat → Nat × Nat} {Q : Nat → Int → Int} {w : Nat → Nat → Int64} {rf : Nat → Nat → Option Nat} {R : Nat → Int → Int} {v : Nat → Nat → Int64} {rm : Nat → Nat → Option Nat} {g : Int} (hS' : SMok S') (hr' : RMok rm) (inv : INV Q w rf R v) (hg : -2147483648 ≤ g ∧ g < 2147483648) (hin : 0 ≤ g ∧ g < R 66 1) : ∃ l1 l2 T, isNm l1 ∧ isNm l2 ∧ w 68 (R 66 (56 + g)).toNat = Int64.ofNat (n5 l1) ∧ w 68 (R 66 (60 + g)).toNat = Int64.ofNat (n5 l2) ∧ termT (R 66) g T ∧ (txt l1 l2 T).length ≤ 64 ∧ fX13_banns S' (mk R v rm) 64 (I g) = some (I ((txt l1 l2 T).length : Int), mk (wrs (t0R R) (txt l1 l2 T)) v rm) := by
  obtain ⟨ta, ⟨wf, cp, nm⟩, ⟨li, cl⟩, ur, fa, wk, ro, se, im, sw⟩ := inv
  have wl1 := li.1
  have h102 := wl1.1
  have wn0 := wf.1
  have wn1 := wf.2.1
  have wg := wf.2.2.2.2.2.2.2.2.2.2.2.2.2.2.1 g hin.1 hin.2
  obtain ⟨l1, n1, c1, v1⟩ := nm.1 (R 66 (56 + g)).toNat (by omega)
  obtain ⟨l2, n2, c2, v2⟩ := nm.1 (R 66 (60 + g)).toNat (by omega)
  rw [Nat.zero_add] at v1 v2
  have a1 := n1.2
  have a2 := n2.2
  have s1 := M_isGlass (S := S') (R := th0 R) (w := v) (rf := rm) (p := g) hS' hr' (by rw [th0_ne (by decide)]; exact wf) hg
  rw [th0_ne (by decide), b2_t hin] at s1
  have r0 : mk (t0R R) v rm = mk (wrs (t0R R) []) v rm := rfl
  have q1 := W_W (R := R) (v := v) hS' hr' [] l1 n1.1 n1.2 (by simp; omega)
  rw [List.nil_append] at q1
  have q2 := W_w (R := R) (v := v) hS' hr' (lt96 l1) (by rw [lt96_len]; omega)
  have q3 := W_W (R := R) (v := v) hS' hr' (lt96 l1 ++ [32]) (wl 18) (by decide) (by decide) (by rw [List.length_append, lt96_len, show (wl 18).length = 3 from rfl]; simp; omega)
  have q4 := W_w (R := R) (v := v) hS' hr' (lt96 l1 ++ [32] ++ lt96 (wl 18)) (by simp only [List.length_append, lt96_len, show (wl 18).length = 3 from rfl, List.length_cons, List.length_nil]; omega)
  have q5 := W_W (R := R) (v := v) hS' hr' (lt96 l1 ++ [32] ++ lt96 (wl 18) ++ [32]) l2 n2.1 n2.2 (by simp only [List.length_append, lt96_len, show (wl 18).length = 3 from rfl, List.length_cons, List.length_nil]; omega)
  obtain ⟨B, hB⟩ : ∃ B, B = lt96 l1 ++ [32] ++ lt96 (wl 18) ++ [32] ++ lt96 l2 := ⟨_, rfl⟩
  have hBl : B.length ≤ 19 := by
    rw [hB]
    simp only [List.length_append, lt96_len, show (wl 18).length = 3 from rfl, List.length_cons, List.length_nil]
    omega
  rw [← hB] at q5
  have q6 := W_w (R := R) (v := v) hS' hr' B (by omega)
  have q7 := M_isLapsed (S := S') (R := wrs (t0R R) (B ++ [32])) (w := v) (rf := rm) (g := g) hS' hr'
  rw [e66] at q7
  have mw := M_wordOf (S := S') (σ := mk (wrs (t0R R) (lt96 l1 ++ [32])) v rm) (k := 18) (by decide)
  have mw2 : fX13_wordOf S' (mk (wrs (t0R R) (lt96 l1 ++ [32])) v rm) (18 : Int32) = some (Int64.ofNat (n27 (wl 18))) := mw
  have pre : ∀ {r : Int32 × mm}, (bd0 (fX13_isLapsed S' (mk (wrs (t0R R) (B ++ [32])) v rm) 64 (I g)) fun v19 =>
    if v19 = 0 then
      bd0 (fX13_spelt S' (mk (wrs (t0R R) (B ++ [32])) v rm) (102 : Int32) (111 : Int32) (114 : Int32) (0 : Int32) (0 : Int32) (0 : Int32)) fun v20 =>
      bd0 (gX13_writeWord S' 100 0 (mk (wrs (t0R R) (B ++ [32])) v rm) 64 v20) fun τ21 =>
      bd0 (fX13_write S' τ21 64 (32 : Int32)) fun τ22 =>
      bd0 (fX13_endOf S' τ22 64 (I g)) fun v23 =>
      if ¬ v23 = (-1 : Int32) then
        gR τ22 64 14 fun r24 =>
        ldI S' τ22 r24 (102 : Int32) fun v25 =>
        bd0 (gX13_writeNumber S' 100 0 τ22 64 (v23 - v25)) fun τ26 =>
        fX13_banns_b191 S' τ26 64
      else
        bd0 (fX13_wordOf S' τ22 (5 : Int32)) fun v27 =>
        bd0 (gX13_writeWord S' 100 0 τ22 64 v27) fun τ28 =>
        fX13_banns_b191 S' τ28 64
    else
      bd0 (fX13_spelt S' (mk (wrs (t0R R) (B ++ [32])) v rm) (110 : Int32) (111 : Int32) (0 : Int32) (0 : Int32) (0 : Int32) (0 : Int32)) fun v29 =>
      bd0 (gX13_writeWord S' 100 0 (mk (wrs (t0R R) (B ++ [32])) v rm) 64 v29) fun τ30 =>
      bd0 (fX13_write S' τ30 64 (32 : Int32)) fun τ31 =>
      bd0 (fX13_spelt S' τ31 (109 : Int32) (111 : Int32) (114 : Int32) (101 : Int32) (0 : Int32) (0 : Int32)) fun v32 =>
      bd0 (gX13_writeWord S' 100 0 τ31 64 v32) fun τ33 =>
      some ((τ33.1 64 32), τ33)) = some r → fX13_banns S' (mk R v rm) 64 (I g) = some r := by
    intro r hr
    unfold fX13_banns
    rw [th0_I, s1]
    rw [bd0_s, if_pos (show ¬ (1 : Int32) = 0 by decide), t0R_I]
    rw [gM19 hr', gM14 hr', show (56 : Int32) = I 56 from rfl, I_add, ldM66 hS' (by omega), t0R_ne (by decide), ldM71 hS' (by omega), v1, r0, q1]
    rw [bd0_s, q2]
    rw [bd0_s, mw2]
    rw [bd0_s, q3]
    rw [bd0_s, q4]
    rw [bd0_s, gM19 hr', gM14 hr', show (60 : Int32) = I 60 from rfl, I_add, ldM66 hS' (by omega), e66, ldM71 hS' (by omega), v2, q5]
    rw [bd0_s, q6]
    exact hr
  by_cases hl : lapA (R 66) g
  · rw [b2_t hl] at q7
    have u1 := W_W (R := R) (v := v) hS' hr' (B ++ [32]) [14, 15] (by decide) (by decide) (by simp; omega)
    have u2 := W_w (R := R) (v := v) hS' hr' (B ++ [32] ++ lt96 [14, 15]) (by simp only [List.length_append, lt96_len, List.length_cons, List.length_nil]; omega)
    have u3 := W_W (R := R) (v := v) hS' hr' (B ++ [32] ++ lt96 [14, 15] ++ [32]) [13, 15, 18, 5] (by decide) (by decide) (by simp only [List.length_append, lt96_len, List.length_cons, List.length_nil]; omega)
    have hT : txt l1 l2 ([32] ++ lt96 [14, 15] ++ [32] ++ lt96 [13, 15, 18, 5]) = B ++ [32] ++ lt96 [14, 15] ++ [32] ++ lt96 [13, 15, 18, 5] := by
      unfold txt
      rw [← hB]
      simp only [List.append_assoc]
    refine ⟨l1, l2, _, n1, n2, c1, c2, Or.inl ⟨hl, rfl⟩, ?_, ?_⟩
    · rw [hT]
      simp only [List.length_append, lt96_len, List.length_cons, List.length_nil]
      omega
    · rw [hT]
      refine pre ?_
      rw [q7]
      rw [bd0_s, if_neg (show ¬ (1 : Int32) = 0 by decide), sp_no]
      rw [bd0_s, u1]
      rw [bd0_s, u2]
      rw [bd0_s, sp_more]
      rw [bd0_s, u3, bd0_s]
      show some ((mk (wrs (t0R R) (B ++ [32] ++ lt96 [14, 15] ++ [32] ++ lt96 [13, 15, 18, 5])) v rm).1 64 32, _) = _
      rw [W_n]
  · rw [b2_f hl] at q7
    have u1 := W_W (R := R) (v := v) hS' hr' (B ++ [32]) [6, 15, 18] (by decide) (by decide) (by simp; omega)
    have u2 := W_w (R := R) (v := v) hS' hr' (B ++ [32] ++ lt96 [6, 15, 18]) (by simp only [List.length_append, lt96_len, List.length_cons, List.length_nil]; omega)
    obtain ⟨D, hD⟩ : ∃ D, D = B ++ [32] ++ lt96 [6, 15, 18] ++ [32] := ⟨_, rfl⟩
    have hDl : D.length ≤ 24 := by
      rw [hD]
      simp only [List.length_append, lt96_len, List.length_cons, List.length_nil]
      omega
    rw [← hD] at u2
    obtain ⟨e, he, hE⟩ := (M_endOf (S := S') (R := wrs (t0R R) D) (w := v) (rf := rm) (g := g) hS' hr' (by rw [e66]; exact wf) (by rw [e66]; exact wl1) hg).2 (by rw [e66]; exact ⟨hin, hl⟩)
    rw [e66] at hE
    have hE1 := hE.1
    by_cases h6 : e = 600
    · have u3 := W_W (R := R) (v := v) hS' hr' D (wl 5) (by decide) (by decide) (by rw [show (wl 5).length = 4 from rfl]; omega)
      have mg : fX13_wordOf S' (mk (wrs (t0R R) D) v rm) (5 : Int32) = some (Int64.ofNat (n27 (wl 5))) := M_wordOf (k := 5) (by decide)
      have hT : txt l1 l2 ([32] ++ lt96 [6, 15, 18] ++ [32] ++ lt96 (wl 5)) = D ++ lt96 (wl 5) := by
        unfold txt
        rw [← hB, hD]
        simp only [List.append_assoc]
      refine ⟨l1, l2, _, n1, n2, c1, c2, Or.inr ⟨hl, e, hE, Or.inl ⟨h6, rfl⟩⟩, ?_, ?_⟩
      · rw [hT, List.length_append, lt96_len, show (wl 5).length = 4 from rfl]
        omega
      · rw [hT]
        refine pre ?_
        rw [q7]
        rw [bd0_s, if_pos (show (0 : Int32) = 0 from rfl), sp_for]
        rw [bd0_s, u1]
        rw [bd0_s, u2]
        rw [bd0_s, he, ii_t h6]
        rw [bd0_s, if_neg (show ¬ ¬ I (-1) = (-1 : Int32) by decide), mg]
        rw [bd0_s, u3, bd0_s]
        show some ((mk (wrs (t0R R) (D ++ lt96 (wl 5))) v rm).1 64 32, _) = _
        rw [W_n]
    · have u3 := W_N (R := R) (v := v) hS' hr' D (e - R 66 102).toNat (by omega) (by omega)
      have hd3 := digs_len 3 (e - R 66 102).toNat
      have hz : I (e - R 66 102) = I ((e - R 66 102).toNat : Int) := by rw [Int.toNat_of_nonneg (by omega)]
      have hT : txt l1 l2 ([32] ++ lt96 [6, 15, 18] ++ [32] ++ digs 3 (e - R 66 102).toNat) = D ++ digs 3 (e - R 66 102).toNat := by
        unfold txt
        rw [← hB, hD]
        simp only [List.append_assoc]
      refine ⟨l1, l2, _, n1, n2, c1, c2, Or.inr ⟨hl, e, hE, Or.inr ⟨h6, rfl⟩⟩, ?_, ?_⟩
      · rw [hT, List.length_append]
        omega
      · rw [hT]
        refine pre ?_
        rw [q7]
        rw [bd0_s, if_pos (show (0 : Int32) = 0 from rfl), sp_for]
        rw [bd0_s, u1]
        rw [bd0_s, u2]
        rw [bd0_s, he, ii_f h6]
        rw [bd0_s, if_pos (show ¬ I e = (-1 : Int32) by rw [show (-1 : Int32) = I (-1) from rfl, I_eq (by omega) (by omega)]; omega), gM14 hr', show (102 : Int32) = I 102 from rfl, ldM66 hS' (by omega), e66, I_sub, hz, u3, bd0_s]
        show some ((mk (wrs (t0R R) (D ++ digs 3 (e - R 66 102).toNat)) v rm).1 64 32, _) = _
        rw [W_n]
