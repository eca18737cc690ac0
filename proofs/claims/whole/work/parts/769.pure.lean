def RS (S' : Nat → Nat × Nat) (rm : Nat → Nat → Option Nat) (n wi : Int) (fc fm : mm → Option (Int32 × mm)) : Prop := ∀ Q w rf R v L o, RCok rf → SYN Q w rf R v n 200 → SS Q rf R L o → PN Q w R v → R 64 41 = wi → SO S' rm n L o wi Q w rf R v (fc (mk Q w rf)) (fm (mk R v rm))
theorem pfx_join {R R3 : Nat → Int → Int} {m a t k1 : Int} {A B : List (Int × Int × Int × Int)} {ty : Int} (hty : ty = 2 ∨ ty = 3) (hm : 0 ≤ m ∧ m < 60) (ha : 0 ≤ a ∧ a < k1) (hk : k1 ≤ m) (ht : 0 ≤ t ∧ t < m) (w1 : WFN (nd81 (R 81)) k1) (w3 : WFN (nd81 (R3 81)) m) (old : ∀ j, 0 ≤ j → j < 4 * k1 → R3 81 j = R 81 j) (pa : pfx (nd81 (R 81)) (a.toNat + 1) a = some A) (pb : pfx (nd81 (R3 81)) (t.toNat + 1) t = some B) : pfx (nd81 (sayZ R3 m ty a t 0 81)) (m.toNat + 1) m = some (A ++ (B ++ [(ty, 0, 0, 0)])) := by
  obtain ⟨e0, e1, e2, e3, e4⟩ := nd_say (R := R3) (a := ty) (b := a) (c := t) (d := 0) hm
  have old' : ∀ j, 0 ≤ j → j < 4 * k1 → nd81 (R3 81) j = nd81 (R 81) j := fun j h1 h2 => by
    unfold nd81
    rw [if_neg (by omega), if_neg (by omega), old j h1 h2]
  have pa2 : pfx (nd81 (sayZ R3 m ty a t 0 81)) m.toNat a = some A := by
    rw [pfx_ext w3 e4 m.toNat a ha.1 (by omega), pfx_ext w1 old' m.toNat a ha.1 (by omega)]
    exact pfx_mono _ _ _ pa _ (by omega)
  have pb2 : pfx (nd81 (sayZ R3 m ty a t 0 81)) m.toNat t = some B := by
    rw [pfx_ext w3 e4 m.toNat t ht.1 (by omega)]
    exact pfx_mono _ _ _ pb _ (by omega)
  unfold pfx
  rw [e0, e1, e2, if_neg (by omega), if_pos hty, pa2, pb2]
  rfl
theorem pfx_not {R3 : Nat → Int → Int} {m t : Int} {B : List (Int × Int × Int × Int)} (hm : 0 ≤ m ∧ m < 60) (ht : 0 ≤ t ∧ t < m) (w3 : WFN (nd81 (R3 81)) m) (pb : pfx (nd81 (R3 81)) (t.toNat + 1) t = some B) : pfx (nd81 (sayZ R3 m 1 t 0 0 81)) (m.toNat + 1) m = some (B ++ [(1, 0, 0, 0)]) := by
  obtain ⟨e0, e1, e2, e3, e4⟩ := nd_say (R := R3) (a := 1) (b := t) (c := 0) (d := 0) hm
  have pb2 : pfx (nd81 (sayZ R3 m 1 t 0 0 81)) m.toNat t = some B := by
    rw [pfx_ext w3 e4 m.toNat t ht.1 (by omega)]
    exact pfx_mono _ _ _ pb _ (by omega)
  unfold pfx
  rw [e0, e1, if_pos rfl, pb2]
  rfl
theorem say_old {R : Nat → Int → Int} {m a b c d k1 : Int} (h : k1 ≤ m) : ∀ j, 0 ≤ j → j < 4 * k1 → sayZ R m a b c d 81 j = R 81 j := fun j h1 h2 => by
  rw [say_81, updf_ne (by omega), updf_ne (by omega), updf_ne (by omega), updf_ne (by omega)]
theorem L_ALL {S S' : Nat → Nat × Nat} {rm : Nat → Nat → Option Nat} {n wi : Int} {FC : Nat → mm → Nat → Nat → Nat → Int32 → Option (Int32 × mm)} {FM : Nat → mm → Nat → Option (Int32 × mm)} (hS : SCok S) (hS' : SMok S') (hr' : RMok rm) (one : RS S' rm n wi (fun σ => FC 2 σ 201 65 67 (I wi)) (fun σ => FM 4 σ 64)) (L : List (Int × Int × Int × Int)) (o0 : Int) : ∀ (d i : Nat) (Q : Nat → Int → Int) (w : Nat → Nat → Int64) (rf : Nat → Nat → Option Nat) (R : Nat → Int → Int) (v : Nat → Nat → Int64) (T : List (Int × Int × Int × Int)) (o a : Int) (fC fM : Nat), o + d = 20 → d + 1 < fC → d + 1 < fM → (i : Int) + 1 ≤ o → RCok rf → SYN Q w rf R v n 200 → SS Q rf R (L ++ T) o → PN Q w R v → R 64 41 = wi → (0 ≤ a ∧ a < ((L ++ T).length : Int)) → pfx (nd81 (R 81)) (a.toNat + 1) a = some T → (o0 < o ∧ (T.length : Int) + 1 ≤ 2 * (o - o0)) → ∃ Q1 w1 rf1 R1 v1, FCs Q Q1 w w1 rf rf1 ∧ FMs R R1 v v1 ∧ RCok rf1 ∧ ((∃ T1 o1 a1, loopN (fX7_readAll_L15 FC S 201 65 67 (I wi)) fC (I i, mk Q w rf) = some (.inr (mk Q1 w1 rf1)) ∧ loopN (fX13_readAnd_L14 FM S' 64) fM (I a, mk R v rm) = some (.inr (I a1, mk R1 v1 rm)) ∧ SYN Q1 w1 rf1 R1 v1 n 200 ∧ SS Q1 rf1 R1 (L ++ T1) o1 ∧ R1 64 41 = wi ∧ (0 ≤ a1 ∧ a1 < ((L ++ T1).length : Int)) ∧ pfx (nd81 (R1 81)) (a1.toNat + 1) a1 = some T1 ∧ (∀ j, 0 ≤ j → j < 4 * (L.length : Int) → R1 81 j = R 81 j) ∧ (o0 < o1 ∧ (T1.length : Int) + 1 ≤ 2 * (o1 - o0))) ∨ (loopN (fX7_readAll_L15 FC S 201 65 67 (I wi)) fC (I i, mk Q w rf) = some (.inl (mk Q1 w1 rf1)) ∧ loopN (fX13_readAnd_L14 FM S' 64) fM (I a, mk R v rm) = some (.inl (mk R1 v1 rm)) ∧ FAIL Q1 R1)) := by
  intro d
  induction d using Nat.strongRecOn with
  | _ d ih =>
    intro i Q w rf R v T o a fC fM hd hfC hfM hi hr sy ss pn h41 ha pa ho
    obtain ⟨fC', rfl⟩ : ∃ f, fC = f + 1 := ⟨fC - 1, by omega⟩
    obtain ⟨fM', rfl⟩ : ∃ f, fM = f + 1 := ⟨fM - 1, by omega⟩
    obtain ⟨c, hc, hst, h2⟩ := TK_stk sy.2
    have s5 := ss.2.2.1
    have pre : ∀ F : Nat → Option ((Int32 × mm) ⊕ (mm ⊕ mm)), gR (mk Q w rf) 65 8 F = F c := fun F => gR_mk hst
    have iw : fX13_isWord S' (mk R v rm) 64 (18 : Int32) = some (b2 (c = 20)) := by
      have := M_isWord (S' := S') (rm := rm) (k := 18) sy.2 (by omega)
      rw [hst] at this
      exact this.trans (congrArg (fun x => some (b2 x)) (propext ⟨Option.some.inj, congrArg some⟩))
    have n20 : ¬ ((20 : Int32) ≤ I (i : Int)) := by rw [I_lit, I_le (by omega) (by omega)]; omega
    by_cases hcw : c = 20
    rotate_left
    · refine ⟨Q, w, rf, R, v, FCs_of fc_refl, FMs_of fm_refl, hr, Or.inl ⟨T, o, a, loop_ex ?_, loop_ex ?_, sy, ss, h41, ha, pa, fun j _ _ => rfl, ho⟩⟩
      · simp only [fX7_readAll_L15, un2_eq, if_neg n20, pre, if_pos hcw]
      · simp only [fX13_readAnd_L14, un2_eq, iw, bd0_s]
        rw [if_pos (b2_f hcw)]
    have h7 := h2.1 (by omega)
    obtain ⟨R1, v1, g1, g2, g3⟩ := goS (w := w) hS hS' hr hr' sy (by omega)
    obtain ⟨Q2, w2, rf2, k1, k2, k3, k4, k5⟩ := nextB (S := S) (w := w) hS hS' hr hr' g2
    have fc2 : FCs Q Q2 w w2 rf rf2 := FCs_of (fc_of k4)
    have fm1 : FMs R R1 v v1 := FMs_of (fm_of g3)
    have ss2 : SS Q2 rf2 R1 (L ++ T) o := SS_fm (SS_fc ss (fc_of k4)) (fm_of g3)
    have r81 : R1 81 = R 81 := g3.1 81 (by omega)
    have cst : ∀ {p}, FC 2 (mk Q2 w2 rf2) 201 65 67 (I wi) = p → fX7_readAll_L15 FC S 201 65 67 (I wi) (I i, mk Q w rf) = bd2 p fun v3 τ4 => if ¬ v3 = 0 then bd2 (fX7_addStep S τ4 201 20 (0 : Int32) (0 : Int32)) fun v5 τ6 => nm (I (i : Int) + (1 : Int32)) fun v7 => some (.inl (v7, τ6)) else some (.inr (.inl τ4)) := by
      intro p hp
      simp only [fX7_readAll_L15, un2_eq, if_neg n20, pre, if_neg (fun h : ¬ c = 20 => h hcw), k1, bd0_s, hp]
    have mst : ∀ {p}, FM 4 (mk R1 v1 rm) 64 = p → fX13_readAnd_L14 FM S' 64 (I a, mk R v rm) = bd2 p fun v3 τ4 => if ¬ v3 = 0 then bd2 (fX13_saysOne S' τ4 64 (2 : Int32) (I a) (τ4.1 64 42) (0 : Int32)) fun v5 τ6 => some (.inl (v5, τ6)) else some (.inr (.inl τ4)) := by
      intro p hp
      simp only [fX13_readAnd_L14, un2_eq, iw, bd0_s]
      rw [if_neg (by rw [b2_t hcw]; decide), g1, bd0_s, hp]
    obtain ⟨Q3, w3, rf3, R3, v3, a1, a2, a3, a4⟩ := one Q2 w2 rf2 R1 v1 (L ++ T) o k2 k3 ss2 (PN_fr pn fc2 fm1) (by rw [g3.2.1 41 (by omega)]; exact h41)
    rcases a4 with ⟨T', o', l1, l2, b1, b2', b3, b4, b5, b6, b7⟩ | ⟨l1, l2, b1⟩
    rotate_left
    · have c1 := cst l1
      have m1 := mst l2
      rw [bd2_p, if_neg (by decide)] at c1 m1
      exact ⟨Q3, w3, rf3, R3, v3, FCs_trans fc2 a1, FMs_trans fm1 a2, a3, Or.inr ⟨loop_ex c1, loop_ex m1, b1⟩⟩
    have c1 := cst l1
    have m1 := mst l2
    have s5' := b2'.2.2.1
    have len1 : ((L ++ T ++ T').length : Int) = ((L ++ T).length : Int) + (T'.length : Int) := by rw [List.length_append]; omega
    have lenT : ((L ++ T).length : Int) = (L.length : Int) + (T.length : Int) := by rw [List.length_append]; omega
    generalize hm : (L ++ T ++ T').length = m at *
    have e42 : (mk R3 v3 rm).1 64 42 = I (R3 64 42) := by rw [mk_1, castI]
    have b2m : SS Q3 rf3 R3 (L ++ T ++ T') o' := b2'
    obtain ⟨p1, p2⟩ := C_put (S := S) (Q := Q3) (w := w3) (b := 20) (k := m) (x := 0) (y := 0) hS a3 (by rw [b2m.1.1, hm]) (by omega)
    have ms := M_says (S := S') (R := R3) (w := v3) (rf := rm) (a := 2) (b := a) (c := R3 64 42) (d := 0) (m := (m : Int)) hS' hr' (by rw [b2m.1.2, hm]) (by omega)
    rw [bd2_p, if_pos (by decide), show (0 : Int32) = I 0 from rfl, p1, bd2_p, nm_eq, show (1 : Int32) = I 1 from rfl, I_add] at c1
    rw [bd2_p, if_pos (by decide), e42, show (2 : Int32) = I 2 from rfl, show (0 : Int32) = I 0 from rfl, ms, bd2_p] at m1
    have m1' : fX13_readAnd_L14 FM S' 64 (I a, mk R v rm) = some (.inl (I (m : Int), mk (sayZ R3 m 2 a (R3 64 42) 0) v3 rm)) := m1
    have ss4 := SS_put (a := 2) (b := a) (c := R3 64 42) (d := 0) (x := 0) (y := 0) (t := (2, 0, 0, 0)) (s := 20) b2m (by omega) (by omega) (by omega) (Or.inr (Or.inl ⟨rfl, rfl⟩)) (fun h => by omega) (fun _ => ⟨by omega, by omega⟩)
    rw [hm] at ss4
    have pj := pfx_join (R := R) (R3 := R3) (m := (m : Int)) (a := a) (t := R3 64 42) (k1 := ((L ++ T).length : Int)) (ty := 2) (by omega) (by omega) ha (by omega) b4 ss.2.2.2.2.1 (by have := b2m.2.2.2.2.1; rw [hm] at this; exact this) (fun j h1 h2 => by rw [b6 j h1 h2, r81]) pa b5
    have eL : L ++ T ++ T' ++ [((2 : Int), (0 : Int), (0 : Int), (0 : Int))] = L ++ (T ++ (T' ++ [(2, 0, 0, 0)])) := by simp only [List.append_assoc]
    rw [eL] at ss4
    have lenN : ((T ++ (T' ++ [((2 : Int), (0 : Int), (0 : Int), (0 : Int))])).length : Int) = (T.length : Int) + (T'.length : Int) + 1 := by
      rw [List.length_append, List.length_append]
      simp only [List.length_cons, List.length_nil]
      omega
    have lenLN : ((L ++ (T ++ (T' ++ [((2 : Int), (0 : Int), (0 : Int), (0 : Int))]))).length : Int) = (m : Int) + 1 := by
      rw [List.length_append]
      omega
    have fc4 : FCs Q (putQ Q3 m 0 0) w w3 rf (up2 rf3 202 m (some 20)) := FCs_put (by omega) (FCs_trans fc2 a1)
    have fm4 : FMs R (sayZ R3 m 2 a (R3 64 42) 0) v v3 := FMs_say (FMs_trans fm1 a2)
    have sy4 : SYN (putQ Q3 m 0 0) w3 (up2 rf3 202 m (some 20)) (sayZ R3 m 2 a (R3 64 42) 0) v3 n 200 := SYN_m (SYN_put b1) (fun j h1 h2 => say_64 (by omega)) (say_o (by omega) (by omega))
    obtain ⟨Q5, w5, rf5, R5, v5, f1, f2, f3, f4⟩ := ih (d - (o' - o).toNat) (by omega) (i + 1) _ w3 _ _ v3 _ o' (m : Int) fC' fM' (by omega) (by omega) (by omega) (by omega) p2 sy4 ss4 (PN_fr pn fc4 fm4) (by rw [say_64 (by omega)]; exact b3) (by omega) pj (by omega)
    rw [loop_st c1, loop_st m1']
    refine ⟨Q5, w5, rf5, R5, v5, FCs_trans fc4 f1, FMs_trans fm4 f2, f3, ?_⟩
    rcases f4 with ⟨T1, o1, a1', x1, x2, x3, x4, x5, x6, x7, x8, x9⟩ | f4
    · refine Or.inl ⟨T1, o1, a1', x1, x2, x3, x4, x5, x6, x7, fun j h1 h2 => ?_, x9⟩
      rw [x8 j h1 h2, say_old (k1 := (L.length : Int)) (by omega) j h1 h2, b6 j h1 (by omega), r81]
    · exact Or.inr f4
theorem S_ALL {S S' : Nat → Nat × Nat} {rm : Nat → Nat → Option Nat} {n wi : Int} {FC : Nat → mm → Nat → Nat → Nat → Int32 → Option (Int32 × mm)} {FM : Nat → mm → Nat → Option (Int32 × mm)} (hS : SCok S) (hS' : SMok S') (hr' : RMok rm) (one : RS S' rm n wi (fun σ => FC 2 σ 201 65 67 (I wi)) (fun σ => FM 4 σ 64)) : RS S' rm n wi (fun σ => fX7_readAll FC S σ 201 65 67 (I wi)) (fun σ => fX13_readAnd FM S' σ 64) := by
  intro Q w rf R v L o hr sy ss pn h41
  obtain ⟨Q1, w1, rf1, R1, v1, a1, a2, a3, a4⟩ := one Q w rf R v L o hr sy ss pn h41
  dsimp only at a4 ⊢
  unfold fX7_readAll fX13_readAnd
  rcases a4 with ⟨T, o1, l1, l2, b1, b2', b3, b4, b5, b6, b7⟩ | ⟨l1, l2, b1⟩
  · have s5 := b2'.2.2.1
    have s0 := ss.2.2.1
    have e42 : (mk R1 v1 rm).1 64 42 = I (R1 64 42) := by rw [mk_1, castI]
    rw [l1, bd2_p, if_pos (by decide), l2, bd2_p, if_pos (by decide), nm_eq, e42]
    obtain ⟨Q5, w5, rf5, R5, v5, f1, f2, f3, f4⟩ := L_ALL hS hS' hr' one L o (20 - o1).toNat 0 Q1 w1 rf1 R1 v1 T o1 (R1 64 42) 1000 1000 (by omega) (by omega) (by omega) (by omega) a3 b1 b2' (PN_fr pn a1 a2) b3 b4 b5 b7
    rcases f4 with ⟨T1, o2, a1', x1, x2, x3, x4, x5, x6, x7, x8, x9⟩ | ⟨x1, x2, x3⟩
    · have x1' : loopN (fX7_readAll_L15 FC S 201 65 67 (I wi)) 1000 ((0 : Int32), mk Q1 w1 rf1) = some (.inr (mk Q5 w5 rf5)) := x1
      rw [x1', bd0_s, x2, bd0_s, cs2_r, cs2_r, un2_eq, wI_mk, castI]
      refine ⟨Q5, w5, rf5, topR R5 a1', v5, FCs_trans a1 f1, FMs_top (FMs_trans a2 f2), f3, Or.inl ⟨T1, o2, rfl, rfl, ?_, ?_, ?_, ?_, ?_, ?_, x9⟩⟩
      · exact SYN_m x3 (fun j h1 h2 => top_64 (by omega)) (top_o (by omega))
      · exact SS_j x4 (top_64 (by omega)) (top_64 (by omega)) (top_o (by omega))
      · rw [top_64 (by omega)]; exact x5
      · rw [top_42]; exact x6
      · rw [top_42, top_o (by omega)]; exact x7
      · intro j h1 h2
        rw [top_o (by omega), x8 j h1 h2, b6 j h1 h2]
    · have x1' : loopN (fX7_readAll_L15 FC S 201 65 67 (I wi)) 1000 ((0 : Int32), mk Q1 w1 rf1) = some (.inl (mk Q5 w5 rf5)) := x1
      rw [x1', bd0_s, x2, bd0_s, cs2_l, cs2_l]
      exact ⟨Q5, w5, rf5, R5, v5, FCs_trans a1 f1, FMs_trans a2 f2, f3, Or.inr ⟨rfl, rfl, x3⟩⟩
  · rw [l1, bd2_p, if_neg (by decide), l2, bd2_p, if_neg (by decide)]
    exact ⟨Q1, w1, rf1, R1, v1, a1, a2, a3, Or.inr ⟨rfl, rfl, b1⟩⟩
theorem L_OR {S S' : Nat → Nat × Nat} {rm : Nat → Nat → Option Nat} {n wi : Int} {FC : Nat → mm → Nat → Nat → Nat → Int32 → Option (Int32 × mm)} {FM : Nat → mm → Nat → Option (Int32 × mm)} (hS : SCok S) (hS' : SMok S') (hr' : RMok rm) (one : RS S' rm n wi (fun σ => FC 0 σ 201 65 67 (I wi)) (fun σ => FM 0 σ 64)) (L : List (Int × Int × Int × Int)) (o0 : Int) : ∀ (d i : Nat) (Q : Nat → Int → Int) (w : Nat → Nat → Int64) (rf : Nat → Nat → Option Nat) (R : Nat → Int → Int) (v : Nat → Nat → Int64) (T : List (Int × Int × Int × Int)) (o a : Int) (fC fM : Nat), o + d = 20 → d + 1 < fC → d + 1 < fM → (i : Int) + 1 ≤ o → RCok rf → SYN Q w rf R v n 200 → SS Q rf R (L ++ T) o → PN Q w R v → R 64 41 = wi → (0 ≤ a ∧ a < ((L ++ T).length : Int)) → pfx (nd81 (R 81)) (a.toNat + 1) a = some T → (o0 < o ∧ (T.length : Int) + 1 ≤ 2 * (o - o0)) → ∃ Q1 w1 rf1 R1 v1, FCs Q Q1 w w1 rf rf1 ∧ FMs R R1 v v1 ∧ RCok rf1 ∧ ((∃ T1 o1 a1, loopN (fX7_readCond_L15 FC S 201 65 67 (I wi)) fC (I i, mk Q w rf) = some (.inr (mk Q1 w1 rf1)) ∧ loopN (fX13_readOr_L14 FM S' 64) fM (I a, mk R v rm) = some (.inr (I a1, mk R1 v1 rm)) ∧ SYN Q1 w1 rf1 R1 v1 n 200 ∧ SS Q1 rf1 R1 (L ++ T1) o1 ∧ R1 64 41 = wi ∧ (0 ≤ a1 ∧ a1 < ((L ++ T1).length : Int)) ∧ pfx (nd81 (R1 81)) (a1.toNat + 1) a1 = some T1 ∧ (∀ j, 0 ≤ j → j < 4 * (L.length : Int) → R1 81 j = R 81 j) ∧ (o0 < o1 ∧ (T1.length : Int) + 1 ≤ 2 * (o1 - o0))) ∨ (loopN (fX7_readCond_L15 FC S 201 65 67 (I wi)) fC (I i, mk Q w rf) = some (.inl (mk Q1 w1 rf1)) ∧ loopN (fX13_readOr_L14 FM S' 64) fM (I a, mk R v rm) = some (.inl (mk R1 v1 rm)) ∧ FAIL Q1 R1)) := by
  intro d
  induction d using Nat.strongRecOn with
  | _ d ih =>
    intro i Q w rf R v T o a fC fM hd hfC hfM hi hr sy ss pn h41 ha pa ho
    obtain ⟨fC', rfl⟩ : ∃ f, fC = f + 1 := ⟨fC - 1, by omega⟩
    obtain ⟨fM', rfl⟩ : ∃ f, fM = f + 1 := ⟨fM - 1, by omega⟩
    obtain ⟨c, hc, hst, h2⟩ := TK_stk sy.2
    have s5 := ss.2.2.1
    have pre : ∀ F : Nat → Option ((Int32 × mm) ⊕ (mm ⊕ mm)), gR (mk Q w rf) 65 8 F = F c := fun F => gR_mk hst
    have iw : fX13_isWord S' (mk R v rm) 64 (17 : Int32) = some (b2 (c = 19)) := by
      have := M_isWord (S' := S') (rm := rm) (k := 17) sy.2 (by omega)
      rw [hst] at this
      exact this.trans (congrArg (fun x => some (b2 x)) (propext ⟨Option.some.inj, congrArg some⟩))
    have n20 : ¬ ((20 : Int32) ≤ I (i : Int)) := by rw [I_lit, I_le (by omega) (by omega)]; omega
    by_cases hcw : c = 19
    rotate_left
    · refine ⟨Q, w, rf, R, v, FCs_of fc_refl, FMs_of fm_refl, hr, Or.inl ⟨T, o, a, loop_ex ?_, loop_ex ?_, sy, ss, h41, ha, pa, fun j _ _ => rfl, ho⟩⟩
      · simp only [fX7_readCond_L15, un2_eq, if_neg n20, pre, if_pos hcw]
      · simp only [fX13_readOr_L14, un2_eq, iw, bd0_s]
        rw [if_pos (b2_f hcw)]
    have h7 := h2.1 (by omega)
    obtain ⟨R1, v1, g1, g2, g3⟩ := goS (w := w) hS hS' hr hr' sy (by omega)
    obtain ⟨Q2, w2, rf2, k1, k2, k3, k4, k5⟩ := nextB (S := S) (w := w) hS hS' hr hr' g2
    have fc2 : FCs Q Q2 w w2 rf rf2 := FCs_of (fc_of k4)
    have fm1 : FMs R R1 v v1 := FMs_of (fm_of g3)
    have ss2 : SS Q2 rf2 R1 (L ++ T) o := SS_fm (SS_fc ss (fc_of k4)) (fm_of g3)
    have r81 : R1 81 = R 81 := g3.1 81 (by omega)
    have cst : ∀ {p}, FC 0 (mk Q2 w2 rf2) 201 65 67 (I wi) = p → fX7_readCond_L15 FC S 201 65 67 (I wi) (I i, mk Q w rf) = bd2 p fun v3 τ4 => if ¬ v3 = 0 then bd2 (fX7_addStep S τ4 201 19 (0 : Int32) (0 : Int32)) fun v5 τ6 => nm (I (i : Int) + (1 : Int32)) fun v7 => some (.inl (v7, τ6)) else some (.inr (.inl τ4)) := by
      intro p hp
      simp only [fX7_readCond_L15, un2_eq, if_neg n20, pre, if_neg (fun h : ¬ c = 19 => h hcw), k1, bd0_s, hp]
    have mst : ∀ {p}, FM 0 (mk R1 v1 rm) 64 = p → fX13_readOr_L14 FM S' 64 (I a, mk R v rm) = bd2 p fun v3 τ4 => if ¬ v3 = 0 then bd2 (fX13_saysOne S' τ4 64 (3 : Int32) (I a) (τ4.1 64 42) (0 : Int32)) fun v5 τ6 => some (.inl (v5, τ6)) else some (.inr (.inl τ4)) := by
      intro p hp
      simp only [fX13_readOr_L14, un2_eq, iw, bd0_s]
      rw [if_neg (by rw [b2_t hcw]; decide), g1, bd0_s, hp]
    obtain ⟨Q3, w3, rf3, R3, v3, a1, a2, a3, a4⟩ := one Q2 w2 rf2 R1 v1 (L ++ T) o k2 k3 ss2 (PN_fr pn fc2 fm1) (by rw [g3.2.1 41 (by omega)]; exact h41)
    rcases a4 with ⟨T', o', l1, l2, b1, b2', b3, b4, b5, b6, b7⟩ | ⟨l1, l2, b1⟩
    rotate_left
    · have c1 := cst l1
      have m1 := mst l2
      rw [bd2_p, if_neg (by decide)] at c1 m1
      exact ⟨Q3, w3, rf3, R3, v3, FCs_trans fc2 a1, FMs_trans fm1 a2, a3, Or.inr ⟨loop_ex c1, loop_ex m1, b1⟩⟩
    have c1 := cst l1
    have m1 := mst l2
    have s5' := b2'.2.2.1
    have len1 : ((L ++ T ++ T').length : Int) = ((L ++ T).length : Int) + (T'.length : Int) := by rw [List.length_append]; omega
    have lenT : ((L ++ T).length : Int) = (L.length : Int) + (T.length : Int) := by rw [List.length_append]; omega
    generalize hm : (L ++ T ++ T').length = m at *
    have e42 : (mk R3 v3 rm).1 64 42 = I (R3 64 42) := by rw [mk_1, castI]
    have b2m : SS Q3 rf3 R3 (L ++ T ++ T') o' := b2'
    obtain ⟨p1, p2⟩ := C_put (S := S) (Q := Q3) (w := w3) (b := 19) (k := m) (x := 0) (y := 0) hS a3 (by rw [b2m.1.1, hm]) (by omega)
    have ms := M_says (S := S') (R := R3) (w := v3) (rf := rm) (a := 3) (b := a) (c := R3 64 42) (d := 0) (m := (m : Int)) hS' hr' (by rw [b2m.1.2, hm]) (by omega)
    rw [bd2_p, if_pos (by decide), show (0 : Int32) = I 0 from rfl, p1, bd2_p, nm_eq, show (1 : Int32) = I 1 from rfl, I_add] at c1
    rw [bd2_p, if_pos (by decide), e42, show (3 : Int32) = I 3 from rfl, show (0 : Int32) = I 0 from rfl, ms, bd2_p] at m1
    have m1' : fX13_readOr_L14 FM S' 64 (I a, mk R v rm) = some (.inl (I (m : Int), mk (sayZ R3 m 3 a (R3 64 42) 0) v3 rm)) := m1
    have ss4 := SS_put (a := 3) (b := a) (c := R3 64 42) (d := 0) (x := 0) (y := 0) (t := (3, 0, 0, 0)) (s := 19) b2m (by omega) (by omega) (by omega) (Or.inr (Or.inr (Or.inl ⟨rfl, rfl⟩))) (fun h => by omega) (fun _ => ⟨by omega, by omega⟩)
    rw [hm] at ss4
    have pj := pfx_join (R := R) (R3 := R3) (m := (m : Int)) (a := a) (t := R3 64 42) (k1 := ((L ++ T).length : Int)) (ty := 3) (by omega) (by omega) ha (by omega) b4 ss.2.2.2.2.1 (by have := b2m.2.2.2.2.1; rw [hm] at this; exact this) (fun j h1 h2 => by rw [b6 j h1 h2, r81]) pa b5
    have eL : L ++ T ++ T' ++ [((3 : Int), (0 : Int), (0 : Int), (0 : Int))] = L ++ (T ++ (T' ++ [(3, 0, 0, 0)])) := by simp only [List.append_assoc]
    rw [eL] at ss4
    have lenN : ((T ++ (T' ++ [((3 : Int), (0 : Int), (0 : Int), (0 : Int))])).length : Int) = (T.length : Int) + (T'.length : Int) + 1 := by
      rw [List.length_append, List.length_append]
      simp only [List.length_cons, List.length_nil]
      omega
    have lenLN : ((L ++ (T ++ (T' ++ [((3 : Int), (0 : Int), (0 : Int), (0 : Int))]))).length : Int) = (m : Int) + 1 := by
      rw [List.length_append]
      omega
    have fc4 : FCs Q (putQ Q3 m 0 0) w w3 rf (up2 rf3 202 m (some 19)) := FCs_put (by omega) (FCs_trans fc2 a1)
    have fm4 : FMs R (sayZ R3 m 3 a (R3 64 42) 0) v v3 := FMs_say (FMs_trans fm1 a2)
    have sy4 : SYN (putQ Q3 m 0 0) w3 (up2 rf3 202 m (some 19)) (sayZ R3 m 3 a (R3 64 42) 0) v3 n 200 := SYN_m (SYN_put b1) (fun j h1 h2 => say_64 (by omega)) (say_o (by omega) (by omega))
    obtain ⟨Q5, w5, rf5, R5, v5, f1, f2, f3, f4⟩ := ih (d - (o' - o).toNat) (by omega) (i + 1) _ w3 _ _ v3 _ o' (m : Int) fC' fM' (by omega) (by omega) (by omega) (by omega) p2 sy4 ss4 (PN_fr pn fc4 fm4) (by rw [say_64 (by omega)]; exact b3) (by omega) pj (by omega)
    rw [loop_st c1, loop_st m1']
    refine ⟨Q5, w5, rf5, R5, v5, FCs_trans fc4 f1, FMs_trans fm4 f2, f3, ?_⟩
    rcases f4 with ⟨T1, o1, a1', x1, x2, x3, x4, x5, x6, x7, x8, x9⟩ | f4
    · refine Or.inl ⟨T1, o1, a1', x1, x2, x3, x4, x5, x6, x7, fun j h1 h2 => ?_, x9⟩
      rw [x8 j h1 h2, say_old (k1 := (L.length : Int)) (by omega) j h1 h2, b6 j h1 (by omega), r81]
    · exact Or.inr f4
theorem S_OR {S S' : Nat → Nat × Nat} {rm : Nat → Nat → Option Nat} {n wi : Int} {FC : Nat → mm → Nat → Nat → Nat → Int32 → Option (Int32 × mm)} {FM : Nat → mm → Nat → Option (Int32 × mm)} (hS : SCok S) (hS' : SMok S') (hr' : RMok rm) (one : RS S' rm n wi (fun σ => FC 0 σ 201 65 67 (I wi)) (fun σ => FM 0 σ 64)) : RS S' rm n wi (fun σ => fX7_readCond FC S σ 201 65 67 (I wi)) (fun σ => fX13_readOr FM S' σ 64) := by
  intro Q w rf R v L o hr sy ss pn h41
  obtain ⟨Q1, w1, rf1, R1, v1, a1, a2, a3, a4⟩ := one Q w rf R v L o hr sy ss pn h41
  dsimp only at a4 ⊢
  unfold fX7_readCond fX13_readOr
  rcases a4 with ⟨T, o1, l1, l2, b1, b2', b3, b4, b5, b6, b7⟩ | ⟨l1, l2, b1⟩
  · have s5 := b2'.2.2.1
    have s0 := ss.2.2.1
    have e42 : (mk R1 v1 rm).1 64 42 = I (R1 64 42) := by rw [mk_1, castI]
    rw [l1, bd2_p, if_pos (by decide), l2, bd2_p, if_pos (by decide), nm_eq, e42]
    obtain ⟨Q5, w5, rf5, R5, v5, f1, f2, f3, f4⟩ := L_OR hS hS' hr' one L o (20 - o1).toNat 0 Q1 w1 rf1 R1 v1 T o1 (R1 64 42) 1000 1000 (by omega) (by omega) (by omega) (by omega) a3 b1 b2' (PN_fr pn a1 a2) b3 b4 b5 b7
    rcases f4 with ⟨T1, o2, a1', x1, x2, x3, x4, x5, x6, x7, x8, x9⟩ | ⟨x1, x2, x3⟩
    · have x1' : loopN (fX7_readCond_L15 FC S 201 65 67 (I wi)) 1000 ((0 : Int32), mk Q1 w1 rf1) = some (.inr (mk Q5 w5 rf5)) := x1
      rw [x1', bd0_s, x2, bd0_s, cs2_r, cs2_r, un2_eq, wI_mk, castI]
      refine ⟨Q5, w5, rf5, topR R5 a1', v5, FCs_trans a1 f1, FMs_top (FMs_trans a2 f2), f3, Or.inl ⟨T1, o2, rfl, rfl, ?_, ?_, ?_, ?_, ?_, ?_, x9⟩⟩
      · exact SYN_m x3 (fun j h1 h2 => top_64 (by omega)) (top_o (by omega))
      · exact SS_j x4 (top_64 (by omega)) (top_64 (by omega)) (top_o (by omega))
      · rw [top_64 (by omega)]; exact x5
      · rw [top_42]; exact x6
      · rw [top_42, top_o (by omega)]; exact x7
      · intro j h1 h2
        rw [top_o (by omega), x8 j h1 h2, b6 j h1 h2]
    · have x1' : loopN (fX7_readCond_L15 FC S 201 65 67 (I wi)) 1000 ((0 : Int32), mk Q1 w1 rf1) = some (.inl (mk Q5 w5 rf5)) := x1
      rw [x1', bd0_s, x2, bd0_s, cs2_l, cs2_l]
      exact ⟨Q5, w5, rf5, R5, v5, FCs_trans a1 f1, FMs_trans a2 f2, f3, Or.inr ⟨rfl, rfl, x3⟩⟩
  · rw [l1, bd2_p, if_neg (by decide), l2, bd2_p, if_neg (by decide)]
    exact ⟨Q1, w1, rf1, R1, v1, a1, a2, a3, Or.inr ⟨rfl, rfl, b1⟩⟩
