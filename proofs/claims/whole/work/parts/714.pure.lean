theorem M_snap_b {S : Nat → Nat × Nat} {R : Nat → Int → Int} {w : Nat → Nat → Int64} {rf : Nat → Nat → Option Nat} {n : Int} (hS : SMok S) (hr : RMok rf) (hn : R 64 23 = n) (hb : 0 ≤ n ∧ n ≤ 7) : fX13_snap_b49 S (mk R w rf) 64 = some (mk (setR (setR R 69 (cpf (R 69) (R 66) (39 * n) 102 39)) 64 (updf (R 64) 23 (n + 1))) w rf) := by
  have l1 := loop_seq (f := fX13_snap_L51 S 64) (m := 1000) (fun k => (I k, mk (setR R 69 (cpf (R 69) (R 66) (39 * n) 102 k)) w rf)) 39 (r := mk (setR R 69 (cpf (R 69) (R 66) (39 * n) 102 39)) w rf) (by omega) (by
    intro k hk
    have h5 : ¬ ((39 : Int) ≤ (k : Int)) := by omega
    simp (disch := first | assumption | omega) only [fX13_snap_L51, I_lit, orb_I, I_add, I_sub, I_mul, I_neg, nm_eq, bd0_s, bd2_s, un2_eq, un3_eq, un4_eq, un5_eq, un6_eq, cs2_l, cs2_r, mk_1, mk_2, wI_mk, wL_mk, wR_mk, setR_same, setR_setR, rZ_0, rZ_1, rZ_b2, it_b2, it_nb2, it_b21, it_nb21, I_lt, I_le, I_eq, I_div, castI, if_true, if_false, Classical.not_not, gM14, gM17, ldM66, stM69, setR_ne, h5, hn]
    rw [cpf_succ (by omega) (by omega) rfl]
    rfl) (by
    simp (disch := first | assumption | omega) only [fX13_snap_L51, I_lit, orb_I, I_add, I_sub, I_mul, I_neg, nm_eq, bd0_s, bd2_s, un2_eq, un3_eq, un4_eq, un5_eq, un6_eq, cs2_l, cs2_r, mk_1, mk_2, wI_mk, wL_mk, wR_mk, setR_same, setR_setR, rZ_0, rZ_1, rZ_b2, it_b2, it_nb2, it_b21, it_nb21, I_lt, I_le, I_eq, I_div, castI, if_true, if_false, Classical.not_not]
    rfl)
  have e0 : ((I ((0 : Nat) : Int)), mk (setR R 69 (cpf (R 69) (R 66) (39 * n) 102 ((0 : Nat) : Int))) w rf) = ((0 : Int32), mk R w rf) := by
    rw [show ((0 : Nat) : Int) = 0 from rfl, cpf_0, setR_id]; rfl
  simp only [e0] at l1
  simp only [fX13_snap_b49, l1]
  simp (disch := first | assumption | omega) only [I_lit, orb_I, I_add, I_sub, I_mul, I_neg, nm_eq, bd0_s, bd2_s, un2_eq, un3_eq, un4_eq, un5_eq, un6_eq, cs2_l, cs2_r, mk_1, mk_2, wI_mk, wL_mk, wR_mk, setR_same, setR_setR, rZ_0, rZ_1, rZ_b2, it_b2, it_nb2, it_b21, it_nb21, I_lt, I_le, I_eq, I_div, castI, if_true, if_false, Classical.not_not, setR_ne, hn]
noncomputable def snS (s N : Int → Int) (n : Int) : Int → Int := ii (n = 8) (cpf (cpf s s 0 39 273) N 273 102 39) (cpf s N (39 * n) 102 39)
noncomputable def snn (n : Int) : Int := ii (n = 8) 8 (n + 1)
theorem snn_r {n : Int} (h : 0 ≤ n ∧ n ≤ 8) : 1 ≤ snn n ∧ snn n ≤ 8 := by
  unfold snn ii
  split <;> omega
theorem M_snap {S : Nat → Nat × Nat} {R : Nat → Int → Int} {w : Nat → Nat → Int64} {rf : Nat → Nat → Option Nat} {n : Int} (hS : SMok S) (hr : RMok rf) (hn : R 64 23 = n) (hb : 0 ≤ n ∧ n ≤ 8) : fX13_snap S (mk R w rf) 64 = some (mk (setR (setR R 69 (snS (R 69) (R 66) n)) 64 (updf (R 64) 23 (snn n))) w rf) := by
  unfold snS snn
  by_cases h : n = 8
  · rw [ii_t h, ii_t h]
    have l1 := loop_seq (f := fX13_snap_L11 S 64) (m := 1000) (fun k => (I k, mk (setR R 69 (cpf (R 69) (R 69) 0 39 k)) w rf)) 273 (r := mk (setR R 69 (cpf (R 69) (R 69) 0 39 273)) w rf) (by omega) (by
      intro k hk
      have h5 : ¬ ((273 : Int) ≤ (k : Int)) := by omega
      simp (disch := first | assumption | omega) only [fX13_snap_L11, I_lit, orb_I, I_add, I_sub, I_mul, I_neg, nm_eq, bd0_s, bd2_s, un2_eq, un3_eq, un4_eq, un5_eq, un6_eq, cs2_l, cs2_r, mk_1, mk_2, wI_mk, wL_mk, wR_mk, setR_same, setR_setR, rZ_0, rZ_1, rZ_b2, it_b2, it_nb2, it_b21, it_nb21, I_lt, I_le, I_eq, I_div, castI, if_true, if_false, Classical.not_not, gM17, ldM69, stM69, h5]
      rw [cpf_out (by omega), cpf_succ (by omega) (by omega) (by rw [Int.add_comm])]
      rfl) (by
      simp (disch := first | assumption | omega) only [fX13_snap_L11, I_lit, orb_I, I_add, I_sub, I_mul, I_neg, nm_eq, bd0_s, bd2_s, un2_eq, un3_eq, un4_eq, un5_eq, un6_eq, cs2_l, cs2_r, mk_1, mk_2, wI_mk, wL_mk, wR_mk, setR_same, setR_setR, rZ_0, rZ_1, rZ_b2, it_b2, it_nb2, it_b21, it_nb21, I_lt, I_le, I_eq, I_div, castI, if_true, if_false, Classical.not_not]
      rfl)
    have e0 : ((I ((0 : Nat) : Int)), mk (setR R 69 (cpf (R 69) (R 69) 0 39 ((0 : Nat) : Int))) w rf) = ((0 : Int32), mk R w rf) := by
      rw [show ((0 : Nat) : Int) = 0 from rfl, cpf_0, setR_id]; rfl
    simp only [e0] at l1
    have h1 : ¬ ¬ ((mk R w rf).1 64 23 = (8 : Int32)) := by
      simp (disch := first | assumption | omega) only [I_lit, orb_I, I_add, I_sub, I_mul, I_neg, nm_eq, bd0_s, bd2_s, un2_eq, un3_eq, un4_eq, un5_eq, un6_eq, cs2_l, cs2_r, mk_1, mk_2, wI_mk, wL_mk, wR_mk, setR_same, setR_setR, rZ_0, rZ_1, rZ_b2, it_b2, it_nb2, it_b21, it_nb21, I_lt, I_le, I_eq, I_div, castI, if_true, if_false, Classical.not_not, hn]
      omega
    simp only [fX13_snap, if_neg h1, l1]
    simp (disch := first | assumption | omega) only [I_lit, orb_I, I_add, I_sub, I_mul, I_neg, nm_eq, bd0_s, bd2_s, un2_eq, un3_eq, un4_eq, un5_eq, un6_eq, cs2_l, cs2_r, mk_1, mk_2, wI_mk, wL_mk, wR_mk, setR_same, setR_setR, rZ_0, rZ_1, rZ_b2, it_b2, it_nb2, it_b21, it_nb21, I_lt, I_le, I_eq, I_div, castI, if_true, if_false, Classical.not_not, setR_ne, hn]
    rw [h]
    rw [M_snap_b (n := 7) hS hr (by rw [setR_same, updf_same rfl]; rfl) (by omega)]
    simp (disch := first | assumption | omega) only [setR_same, setR_ne, updf_updf]
    congr 2
    funext a
    by_cases h64 : a = 64
    · rw [h64, setR_same, setR_same]; rfl
    · rw [setR_ne h64, setR_ne h64]
      by_cases h69 : a = 69
      · rw [h69, setR_same, setR_same]; rfl
      · rw [setR_ne h69, setR_ne h69, setR_ne h64, setR_ne h69]
  · rw [ii_f h, ii_f h]
    have h1 : ¬ ((mk R w rf).1 64 23 = (8 : Int32)) := by
      simp (disch := first | assumption | omega) only [I_lit, orb_I, I_add, I_sub, I_mul, I_neg, nm_eq, bd0_s, bd2_s, un2_eq, un3_eq, un4_eq, un5_eq, un6_eq, cs2_l, cs2_r, mk_1, mk_2, wI_mk, wL_mk, wR_mk, setR_same, setR_setR, rZ_0, rZ_1, rZ_b2, it_b2, it_nb2, it_b21, it_nb21, I_lt, I_le, I_eq, I_div, castI, if_true, if_false, Classical.not_not, hn]
      omega
    simp only [fX13_snap, if_pos h1]
    exact M_snap_b hS hr hn (by omega)
theorem sn_lt {H s : Int → Int} {i j : Int} (h : j < 102) : snN H s i j = H j := by
  unfold snN
  rw [if_pos h]
theorem sn_ge {H s : Int → Int} {i j : Int} (h : 102 ≤ j) : snN H s i j = s (39 * i + (j - 102)) := by
  unfold snN
  rw [if_neg (by omega)]
theorem snS_last {H s : Int → Int} {n : Int} (hn : 0 ≤ n ∧ n ≤ 8) : AgL H (snN H (snS s H n) (snn n - 1)) := by
  intro j hj
  by_cases h : j < 102
  · exact sn_lt h
  · rw [sn_ge (by omega)]
    unfold snS snn
    by_cases h8 : n = 8
    · rw [ii_t h8, ii_t h8, cpf_in (k := j) (by omega) (by omega)]
    · rw [ii_f h8, ii_f h8, cpf_in (k := j) (by omega) (by omega)]
theorem snS_shift {H s : Int → Int} {i : Int} (hi : 0 ≤ i ∧ i < 7) : AgL (snN H s (i + 1)) (snN H (snS s H 8) i) := by
  intro j hj
  by_cases h : j < 102
  · rw [sn_lt h, sn_lt h]
  · rw [sn_ge (by omega), sn_ge (by omega)]
    unfold snS
    rw [ii_t rfl, cpf_out (by omega), cpf_in (by omega) rfl]
    congr 1
    omega
theorem snS_keep {H s : Int → Int} {i n : Int} (hn : n ≠ 8) (hi : 0 ≤ i ∧ i < n) : AgL (snN H s i) (snN H (snS s H n) i) := by
  intro j hj
  by_cases h : j < 102
  · rw [sn_lt h, sn_lt h]
  · rw [sn_ge (by omega), sn_ge (by omega)]
    unfold snS
    rw [ii_f hn, cpf_out (by omega)]
theorem isUndo_104 {l : Nat} (h : isUndo l) : l ≠ 104 := by
  unfold isUndo at h
  omega
theorem C_keep {S : Nat → Nat × Nat} {Q : Nat → Int → Int} {w : Nat → Nat → Int64} {rf : Nat → Nat → Option Nat} {N : Int → Int} {n : Int} {s : Int → Int} (hS : SCok S) (hr : RCok rf) (wf : WFP N) (cl : CL 104 Q N) (lo : LOK N) (ur : UR Q rf n N s) : ∃ Q' rf', fX9_keep S (mk Q w rf) 120 104 = some (mk Q' w rf') ∧ UR Q' rf' (snn n) N (snS s N n) ∧ (∀ a, a < 120 ∨ 185 < a → Q' a = Q a) ∧ (∀ a j, a ≠ 121 → rf' a j = rf a j) ∧ CL 104 Q' N := by
  have wn0 := wf.1
  have wn1 := wf.2.1
  obtain ⟨u1, u2, L, u3, u4, u5⟩ := ur
  have s121 : (S 121).2 = 8 := hS.2.2.2.2.2.2.2.2.2.2.2.2.2.2.2.2.2.2.2.2.2.2.2.2.2.2.2
  have hu : ∀ i, i < 8 → isUndo (L i) := fun i hi => (u3 i hi).2
  have key : ∀ (Q0 : Nat → Int → Int) (rf0 : Nat → Nat → Option Nat) (n0 : Int) (L0 : Nat → Nat), RCok rf0 → Q0 120 1 = n0 → (0 ≤ n0 ∧ n0 ≤ 7) → CL 104 Q0 N → (∀ i, i < 8 → rf0 121 i = some (L0 i) ∧ isUndo (L0 i)) → (∀ a, a < 120 ∨ 120 < a → Q0 a = Q a) → ∃ Q', fX9_keep_b13 S (mk Q0 w rf0) 120 104 = some (mk Q' w rf0) ∧ Q' 120 1 = n0 + 1 ∧ CL (L0 n0.toNat) Q' N ∧ (∀ a, a ≠ 120 → (a < L0 n0.toNat ∨ L0 n0.toNat + 7 < a) → Q' a = Q a) := by
    intro Q0 rf0 n0 L0 hr0 h1 h2 h3 h4 h5
    have h6 := (h4 n0.toNat (by omega)).2
    have h7 := isUndo_life h6
    have h8 := isUndo_104 h6
    have h9 : L0 n0.toNat ≥ 122 := by unfold isUndo at h6; omega
    have h10 := FrL_cp (l := L0 n0.toNat) (l' := 104) (Q := Q0)
    refine ⟨setR (cpLife (L0 n0.toNat) 104 Q0) 120 (updf (cpLife (L0 n0.toNat) 104 Q0 120) 1 (n0 + 1)), ?_, ?_, ?_, ?_⟩
    · simp (disch := first | assumption | omega) only [fX9_keep_b13, I_lit, orb_I, I_add, I_sub, I_mul, I_neg, nm_eq, bd0_s, bd2_s, un2_eq, un3_eq, un4_eq, un5_eq, un6_eq, cs2_l, cs2_r, mk_1, mk_2, wI_mk, wL_mk, wR_mk, setR_same, setR_setR, rZ_0, rZ_1, rZ_b2, it_b2, it_nb2, it_b21, it_nb21, I_lt, I_le, I_eq, I_div, castI, if_true, if_false, Classical.not_not, gC120_0, h1]
      rw [ldR_mk s121 (by omega) (by omega) (h4 n0.toNat (by omega)).1]
      rw [C_copyLife hS hr0 h7 isLife104 h8]
      simp (disch := first | assumption | omega) only [I_lit, orb_I, I_add, I_sub, I_mul, I_neg, nm_eq, bd0_s, bd2_s, un2_eq, un3_eq, un4_eq, un5_eq, un6_eq, cs2_l, cs2_r, mk_1, mk_2, wI_mk, wL_mk, wR_mk, setR_same, setR_setR, rZ_0, rZ_1, rZ_b2, it_b2, it_nb2, it_b21, it_nb21, I_lt, I_le, I_eq, I_div, castI, if_true, if_false, Classical.not_not]
      rw [h10 120 (by omega), h1]
    · rw [setR_same, updf_same rfl]
    · refine CL_q (CL_cp (by omega) (by omega) h3) ?_
      intro a ha1 ha2
      rw [setR_ne (by omega)]
    · intro a ha ha2
      rw [setR_ne ha, h10 a ha2, h5 a (by omega)]
  by_cases h8 : n = 8
  · have hd := C_dropOldest (w := w) (Q := Q) hS hr (fun i hi => (u3 i hi).1)
    have hr2 : RCok (up2 (rfK rf 7) 121 7 (some (L 0))) := RCok_of hr (by
      intro a j h
      unfold fxR at h
      simp only [up2, rfK]
      rw [if_neg h.1, if_neg (by omega)])
    obtain ⟨Q', k1, k2, k3, k4⟩ := key (setR Q 120 (updf (Q 120) 1 (Q 120 1 - 1))) (up2 (rfK rf 7) 121 7 (some (L 0))) 7 (fun i => if i = 7 then L 0 else L (i + 1)) hr2 (by rw [setR_same, updf_same rfl, u1, h8]; rfl) (by omega) (CL_q cl (fun a h1 h2 => setR_ne (by omega))) (by
      intro i hi
      simp only [up2, rfK]
      by_cases h7 : i = 7
      · simp only [h7, if_true]
        exact ⟨trivial, hu 0 (by omega)⟩
      · simp only [h7, if_false, true_and, if_true]
        rw [if_pos (by omega)]
        exact u3 (i + 1) (by omega)) (fun a ha => setR_ne (by omega))
    have hL7 : (if (7 : Int).toNat = 7 then L 0 else L ((7 : Int).toNat + 1)) = L 0 := rfl
    simp only [hL7] at k3 k4
    have hu0 := hu 0 (by omega)
    have hr0 : 122 ≤ L 0 ∧ L 0 ≤ 178 := by unfold isUndo at hu0; omega
    refine ⟨Q', up2 (rfK rf 7) 121 7 (some (L 0)), ?_, ⟨?_, ?_, (fun i => if i = 7 then L 0 else L (i + 1)), ?_, ?_, ?_⟩, ?_, ?_, ?_⟩
    · have h1 : ¬ ¬ ((mk Q w rf).1 120 1 = (8 : Int32)) := by
        simp (disch := first | assumption | omega) only [I_lit, orb_I, I_add, I_sub, I_mul, I_neg, nm_eq, bd0_s, bd2_s, un2_eq, un3_eq, un4_eq, un5_eq, un6_eq, cs2_l, cs2_r, mk_1, mk_2, wI_mk, wL_mk, wR_mk, setR_same, setR_setR, rZ_0, rZ_1, rZ_b2, it_b2, it_nb2, it_b21, it_nb21, I_lt, I_le, I_eq, I_div, castI, if_true, if_false, Classical.not_not, u1]
        omega
      simp only [fX9_keep, if_neg h1, hd, bd0_s]
      exact k1
    · rw [k2]; unfold snn; rw [ii_t h8]; rfl
    · have := snn_r u2; omega
    · intro i hi
      simp only [up2, rfK]
      by_cases h7 : i = 7
      · simp only [h7, if_true]
        exact ⟨trivial, hu 0 (by omega)⟩
      · simp only [h7, if_false, true_and, if_true]
        rw [if_pos (by omega)]
        exact u3 (i + 1) (by omega)
    · intro i j hi hj hij
      by_cases h1 : i = 7
      · by_cases h2 : j = 7
        · omega
        · simp only [h1, h2, if_true, if_false] at hij
          have := u4 0 (j + 1) (by omega) (by omega) hij
          omega
      · by_cases h2 : j = 7
        · simp only [h1, h2, if_true, if_false] at hij
          have := u4 (i + 1) 0 (by omega) (by omega) hij
          omega
        · simp only [h1, h2, if_false] at hij
          have := u4 (i + 1) (j + 1) (by omega) (by omega) hij
          omega
    · intro i hi
      have hs : snn n = 8 := by unfold snn; rw [ii_t h8]
      rw [hs] at hi
      by_cases h7 : i = 7
      · have ag := snS_last (H := N) (s := s) u2
        have e : snn n - 1 = (i : Int) := by omega
        rw [e] at ag
        simp only [h7, if_true]
        rw [h7] at ag
        exact ⟨CL_ag ag (by omega) (by omega) k3, LOK_ag lo (by omega) ag⟩
      · have ag := snS_shift (H := N) (s := s) (i := i) (by omega)
        rw [h8]
        obtain ⟨v1, v2⟩ := u5 (i + 1) (by omega)
        have e : ((i + 1 : Nat) : Int) = (i : Int) + 1 := by omega
        rw [e] at v1 v2
        simp only [h7, if_false]
        have n0 : snN N s ((i : Int) + 1) 0 = N 0 := sn_lt (by omega)
        have n1 : snN N s ((i : Int) + 1) 1 = N 1 := sn_lt (by omega)
        refine ⟨CL_ag ag (by omega) (by omega) (CL_q v1 ?_), LOK_ag v2 (by omega) ag⟩
        intro a ha1 ha2
        have hui := hu (i + 1) (by omega)
        have hne : L (i + 1) ≠ L 0 := fun h => by
          have := u4 (i + 1) 0 (by omega) (by omega) h
          omega
        have hfar := isLife_far (isUndo_life hui) (isUndo_life hu0) hne
        have hri : 122 ≤ L (i + 1) := by unfold isUndo at hui; omega
        exact k4 a (by omega) (by omega)
    · intro a ha
      exact k4 a (by omega) (by omega)
    · intro a j ha
      simp only [up2, rfK]
      rw [if_neg ha, if_neg (by omega)]
    · exact CL_q cl (fun a h1 h2 => k4 a (by omega) (by omega))
  · obtain ⟨Q', k1, k2, k3, k4⟩ := key Q rf n L hr u1 (by omega) cl u3 (fun a ha => rfl)
    have hun := hu n.toNat (by omega)
    have hrn : 122 ≤ L n.toNat ∧ L n.toNat ≤ 178 := by unfold isUndo at hun; omega
    have hs : snn n = n + 1 := by unfold snn; rw [ii_f h8]
    refine ⟨Q', rf, ?_, ⟨?_, ?_, L, u3, u4, ?_⟩, ?_, fun a j ha => rfl, ?_⟩
    · have h1 : ¬ ((mk Q w rf).1 120 1 = (8 : Int32)) := by
        simp (disch := first | assumption | omega) only [I_lit, orb_I, I_add, I_sub, I_mul, I_neg, nm_eq, bd0_s, bd2_s, un2_eq, un3_eq, un4_eq, un5_eq, un6_eq, cs2_l, cs2_r, mk_1, mk_2, wI_mk, wL_mk, wR_mk, setR_same, setR_setR, rZ_0, rZ_1, rZ_b2, it_b2, it_nb2, it_b21, it_nb21, I_lt, I_le, I_eq, I_div, castI, if_true, if_false, Classical.not_not, u1]
        omega
      simp only [fX9_keep, if_pos h1]
      exact k1
    · rw [k2, hs]
    · omega
    · intro i hi
      rw [hs] at hi
      by_cases h7 : (i : Int) = n
      · have ag := snS_last (H := N) (s := s) u2
        have e : snn n - 1 = (i : Int) := by omega
        rw [e] at ag
        have e2 : n.toNat = i := by omega
        rw [e2] at k3
        exact ⟨CL_ag ag (by omega) (by omega) k3, LOK_ag lo (by omega) ag⟩
      · have ag := snS_keep (H := N) (s := s) (i := i) h8 (by omega)
        obtain ⟨v1, v2⟩ := u5 i (by omega)
        have n0 : snN N s (i : Int) 0 = N 0 := sn_lt (by omega)
        have n1 : snN N s (i : Int) 1 = N 1 := sn_lt (by omega)
        refine ⟨CL_ag ag (by omega) (by omega) (CL_q v1 ?_), LOK_ag v2 (by omega) ag⟩
        intro a ha1 ha2
        have hui := hu i (by omega)
        have hne : L i ≠ L n.toNat := fun h => by
          have := u4 i n.toNat (by omega) (by omega) h
          omega
        have hfar := isLife_far (isUndo_life hui) (isUndo_life hun) hne
        have hri : 122 ≤ L i := by unfold isUndo at hui; omega
        exact k4 a (by omega) (by omega)
    · intro a ha
      exact k4 a (by omega) (by omega)
    · exact CL_q cl (fun a h1 h2 => k4 a (by omega) (by omega))
