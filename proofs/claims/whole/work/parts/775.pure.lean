noncomputable def hvA (N : Int → Int) (g : Int) : Nat → Int → Prop
  | 0, _ => False
  | f + 1, k => ii (ndN N (4 * k) = 1) (¬ hvA N g f (ndN N (4 * k + 1))) (ii (ndN N (4 * k) = 2) (hvA N g f (ndN N (4 * k + 1)) ∧ hvA N g f (ndN N (4 * k + 2))) (ii (ndN N (4 * k) = 3) (hvA N g f (ndN N (4 * k + 1)) ∨ hvA N g f (ndN N (4 * k + 2))) (lfA N g (ndN N (4 * k), ndN N (4 * k + 1), ndN N (4 * k + 2), ndN N (4 * k + 3)))))
def okT (t : Int × Int × Int × Int) : Prop := t.1 = 1 ∨ t.1 = 2 ∨ t.1 = 3 ∨ lfK t
theorem okT_of {t : Int × Int × Int × Int} {st : Option Nat} {sg vl : Int} (h : tokR t st sg vl) : okT t := by
  unfold tokR at h
  unfold okT lfK
  rcases h with ⟨z1, -⟩ | ⟨z1, -⟩ | ⟨z1, -⟩ | ⟨z1, z2⟩ | ⟨z1, z2, z3, z4, z5⟩ | ⟨z1, z2, z3, z4, z5, z6⟩ <;> omega
theorem nd_in {N : Int → Int} {k : Int} (h : ndN N (4 * k) ≠ 0) : 0 ≤ k ∧ k < 60 ∧ (∀ j, 0 ≤ j → j ≤ 3 → ndN N (4 * k + j) = N (143 + 4 * k + j)) := by
  have h1 : ¬ (4 * k < 0 ∨ 240 ≤ 4 * k) := fun h2 => h (by unfold ndN; rw [if_pos h2])
  refine ⟨by omega, by omega, fun j g1 g2 => ?_⟩
  unfold ndN
  rw [if_neg (by omega)]
  congr 1
  omega
theorem M_hv {S : Nat → Nat × Nat} {R : Nat → Int → Int} {v : Nat → Nat → Int64} {rm : Nat → Nat → Option Nat} {g : Int} (hS : SMok S) (hr : RMok rm) (wf : WFP (R 66)) (lo : LOK (R 66)) (hg : 0 ≤ g ∧ g < R 66 1) : ∀ (f : Nat) (k : Int) (T : List (Int × Int × Int × Int)), pfx (ndN (R 66)) f k = some T → (∀ t ∈ T, okT t) → ∀ F, f ≤ F → gX13_holds S F 0 (mk R v rm) 64 (I k) (I g) = some (b2 (hvA (R 66) g f k)) := by
  intro f
  induction f with
  | zero => intro k T h; exact nomatch h
  | succ f ih =>
    intro k T h hT F hF
    obtain ⟨F', rfl⟩ : ∃ x, F = x + 1 := ⟨F - 1, by omega⟩
    show fX13_holds (gX13_holds S F') S (mk R v rm) 64 (I k) (I g) = _
    unfold pfx at h
    unfold hvA
    have e1 : (143 : Int32) + (4 : Int32) * I k = I (143 + 4 * k) := by rw [show (143 : Int32) = I 143 from rfl, show (4 : Int32) = I 4 from rfl, I_mul, I_add]
    have e2 : I (143 + 4 * k) + (1 : Int32) = I (143 + 4 * k + 1) := by rw [show (1 : Int32) = I 1 from rfl, I_add]
    have e3 : I (143 + 4 * k) + (2 : Int32) = I (143 + 4 * k + 2) := by rw [show (2 : Int32) = I 2 from rfl, I_add]
    by_cases c1 : ndN (R 66) (4 * k) = 1
    · rw [if_pos c1] at h
      obtain ⟨k0, k1, kn⟩ := nd_in (N := R 66) (k := k) (by omega)
      have n0 := kn 0 (by omega) (by omega)
      have n1 := kn 1 (by omega) (by omega)
      have n2 := kn 2 (by omega) (by omega)
      rw [Int.add_zero, Int.add_zero] at n0
      cases e : pfx (ndN (R 66)) f (ndN (R 66) (4 * k + 1)) with
      | none => rw [e] at h; exact nomatch h
      | some A =>
        rw [e] at h
        have hTe : T = A ++ [(1, 0, 0, 0)] := (Option.some.inj h).symm
        have iA := ih _ A e (fun t ht => hT t (by rw [hTe]; exact List.mem_append_left _ ht)) F' (by omega)
        rw [ii_t c1]
        unfold fX13_holds
        rw [nm_eq, e1, e2, e3, gM14 hr, ldM66 hS (by omega), gM14 hr, ldM66 hS (by omega), gM14 hr, ldM66 hS (by omega), ← n0, ← n1, c1, if_pos (show I 1 = (1 : Int32) from rfl), iA, bd0_s]
        by_cases q : hvA (R 66) g f (ndN (R 66) (4 * k + 1))
        · rw [if_pos (show ¬ (b2 (hvA (R 66) g f (ndN (R 66) (4 * k + 1))) = 0) from fun h2 => b2_0.1 h2 q), b2_f (fun h2 => h2 q)]; rfl
        · rw [if_neg (show ¬ ¬ (b2 (hvA (R 66) g f (ndN (R 66) (4 * k + 1))) = 0) from fun h2 => h2 (b2_0.2 q)), b2_t q]; rfl
    rw [if_neg c1] at h
    rw [ii_f c1]
    by_cases c23 : ndN (R 66) (4 * k) = 2 ∨ ndN (R 66) (4 * k) = 3
    · rw [if_pos c23] at h
      obtain ⟨k0, k1, kn⟩ := nd_in (N := R 66) (k := k) (by omega)
      have n0 := kn 0 (by omega) (by omega)
      have n1 := kn 1 (by omega) (by omega)
      have n2 := kn 2 (by omega) (by omega)
      rw [Int.add_zero, Int.add_zero] at n0
      cases e : pfx (ndN (R 66)) f (ndN (R 66) (4 * k + 1)) with
      | none => rw [e] at h; exact nomatch h
      | some A =>
        cases e' : pfx (ndN (R 66)) f (ndN (R 66) (4 * k + 2)) with
        | none => rw [e, e'] at h; exact nomatch h
        | some B =>
          rw [e, e'] at h
          have hTe : T = A ++ (B ++ [(ndN (R 66) (4 * k), 0, 0, 0)]) := (Option.some.inj h).symm
          have iA := ih _ A e (fun t ht => hT t (by rw [hTe]; exact List.mem_append_left _ ht)) F' (by omega)
          have iB := ih _ B e' (fun t ht => hT t (by rw [hTe]; exact List.mem_append_right _ (List.mem_append_left _ ht))) F' (by omega)
          generalize hvA (R 66) g f (ndN (R 66) (4 * k + 1)) = PA at *
          generalize hvA (R 66) g f (ndN (R 66) (4 * k + 2)) = PB at *
          have za : (b2 PA = 0) ↔ ¬ PA := b2_0
          have zb : (b2 PB = 0) ↔ ¬ PB := b2_0
          by_cases c2 : ndN (R 66) (4 * k) = 2
          · rw [ii_t c2]
            unfold fX13_holds
            rw [nm_eq, e1, e2, e3, gM14 hr, ldM66 hS (by omega), gM14 hr, ldM66 hS (by omega), gM14 hr, ldM66 hS (by omega), ← n0, ← n1, ← n2, c2, if_neg (show ¬ (I 2 = (1 : Int32)) from by decide), if_pos (show I 2 = (2 : Int32) from rfl), iA, bd0_s]
            by_cases q : PA
            · rw [if_neg (show ¬ (b2 PA = 0) from fun h2 => za.1 h2 q), iB, bd0_s]
              by_cases q2 : PB
              · rw [if_neg (show ¬ (b2 PB = 0) from fun h2 => zb.1 h2 q2), b2_t ⟨q, q2⟩]; rfl
              · rw [if_pos (show b2 PB = 0 from zb.2 q2), b2_f (fun h2 => q2 h2.2)]; rfl
            · rw [if_pos (show b2 PA = 0 from za.2 q), b2_f (fun h2 => q h2.1)]; rfl
          · have c3 : ndN (R 66) (4 * k) = 3 := by omega
            rw [ii_f c2, ii_t c3]
            unfold fX13_holds
            rw [nm_eq, e1, e2, e3, gM14 hr, ldM66 hS (by omega), gM14 hr, ldM66 hS (by omega), gM14 hr, ldM66 hS (by omega), ← n0, ← n1, ← n2, c3, if_neg (show ¬ (I 3 = (1 : Int32)) from by decide), if_neg (show ¬ (I 3 = (2 : Int32)) from by decide), if_pos (show I 3 = (3 : Int32) from rfl), iA, bd0_s]
            by_cases q : PA
            · rw [if_pos (show ¬ (b2 PA = 0) from fun h2 => za.1 h2 q), b2_t (Or.inl q)]; rfl
            · rw [if_neg (show ¬ ¬ (b2 PA = 0) from fun h2 => h2 (za.2 q)), iB, bd0_s]
              by_cases q2 : PB
              · rw [if_neg (show ¬ (b2 PB = 0) from fun h2 => zb.1 h2 q2), b2_t (Or.inr q2)]; rfl
              · rw [if_pos (show b2 PB = 0 from zb.2 q2), b2_f (fun h2 => h2.elim q q2)]; rfl
    · rw [if_neg c23] at h
      have hTe : T = [(ndN (R 66) (4 * k), ndN (R 66) (4 * k + 1), ndN (R 66) (4 * k + 2), ndN (R 66) (4 * k + 3))] := (Option.some.inj h).symm
      have ok := hT (ndN (R 66) (4 * k), ndN (R 66) (4 * k + 1), ndN (R 66) (4 * k + 2), ndN (R 66) (4 * k + 3)) (by rw [hTe]; exact List.mem_singleton.2 rfl)
      have lk : lfK (ndN (R 66) (4 * k), ndN (R 66) (4 * k + 1), ndN (R 66) (4 * k + 2), ndN (R 66) (4 * k + 3)) := by
        unfold okT at ok
        dsimp only at ok
        rcases ok with h1 | h1 | h1 | h1
        · exact absurd h1 c1
        · exact absurd (Or.inl h1) c23
        · exact absurd (Or.inr h1) c23
        · exact h1
      have l70 := lk.1
      dsimp only at l70
      obtain ⟨k0, k1, kn⟩ := nd_in (N := R 66) (k := k) (by omega)
      have n0 := kn 0 (by omega) (by omega)
      rw [Int.add_zero, Int.add_zero] at n0
      rw [ii_f (fun h2 => c23 (Or.inl h2)), ii_f (fun h2 => c23 (Or.inr h2))]
      exact M_leaf hS hr wf lo hg ⟨k0, k1⟩ n0.symm (kn 1 (by omega) (by omega)).symm (kn 2 (by omega) (by omega)).symm (kn 3 (by omega) (by omega)).symm lk
def lvs : List (Int × Int × Int × Int) → Nat
  | [] => 0
  | t :: T => (if 70 ≤ t.1 then 1 else 0) + lvs T
theorem lvs_app (A B : List (Int × Int × Int × Int)) : lvs (A ++ B) = lvs A + lvs B := by
  induction A with
  | nil => show lvs B = 0 + lvs B; omega
  | cons t A ih =>
    show (if 70 ≤ t.1 then 1 else 0) + lvs (A ++ B) = (if 70 ≤ t.1 then 1 else 0) + lvs A + lvs B
    rw [ih]; omega
theorem lvs_pfx {nd : Int → Int} : ∀ (f : Nat) (k : Int) (T : List (Int × Int × Int × Int)), pfx nd f k = some T → (∀ t ∈ T, okT t) → 1 ≤ lvs T ∧ 2 * lvs T ≤ T.length + 1 := by
  intro f
  induction f with
  | zero => intro k T h; exact nomatch h
  | succ f ih =>
    intro k T h hT
    unfold pfx at h
    by_cases c1 : nd (4 * k) = 1
    · rw [if_pos c1] at h
      cases e : pfx nd f (nd (4 * k + 1)) with
      | none => rw [e] at h; exact nomatch h
      | some A =>
        rw [e] at h
        have hTe : T = A ++ [(1, 0, 0, 0)] := (Option.some.inj h).symm
        have iA := ih _ A e (fun t ht => hT t (by rw [hTe]; exact List.mem_append_left _ ht))
        rw [hTe, lvs_app, List.length_append]
        have : lvs [((1 : Int), (0 : Int), (0 : Int), (0 : Int))] = 0 := by decide
        rw [this, List.length_singleton]
        omega
    rw [if_neg c1] at h
    by_cases c23 : nd (4 * k) = 2 ∨ nd (4 * k) = 3
    · rw [if_pos c23] at h
      cases e : pfx nd f (nd (4 * k + 1)) with
      | none => rw [e] at h; exact nomatch h
      | some A =>
        cases e' : pfx nd f (nd (4 * k + 2)) with
        | none => rw [e, e'] at h; exact nomatch h
        | some B =>
          rw [e, e'] at h
          have hTe : T = A ++ (B ++ [(nd (4 * k), 0, 0, 0)]) := (Option.some.inj h).symm
          have iA := ih _ A e (fun t ht => hT t (by rw [hTe]; exact List.mem_append_left _ ht))
          have iB := ih _ B e' (fun t ht => hT t (by rw [hTe]; exact List.mem_append_right _ (List.mem_append_left _ ht)))
          rw [hTe, lvs_app, lvs_app, List.length_append, List.length_append]
          have : lvs [(nd (4 * k), (0 : Int), (0 : Int), (0 : Int))] = 0 := by
            show (if 70 ≤ nd (4 * k) then 1 else 0) + 0 = 0
            rw [if_neg (by omega)]
          rw [this, List.length_singleton]
          omega
    · rw [if_neg c23] at h
      have hTe : T = [(nd (4 * k), nd (4 * k + 1), nd (4 * k + 2), nd (4 * k + 3))] := (Option.some.inj h).symm
      have ok := hT (nd (4 * k), nd (4 * k + 1), nd (4 * k + 2), nd (4 * k + 3)) (by rw [hTe]; exact List.mem_singleton.2 rfl)
      have l70 : 70 ≤ nd (4 * k) := by
        unfold okT at ok
        dsimp only at ok
        rcases ok with h1 | h1 | h1 | h1
        · exact absurd h1 c1
        · exact absurd (Or.inl h1) c23
        · exact absurd (Or.inr h1) c23
        · exact h1.1.1
      rw [hTe, List.length_singleton]
      show 1 ≤ (if 70 ≤ nd (4 * k) then 1 else 0) + 0 ∧ 2 * ((if 70 ≤ nd (4 * k) then 1 else 0) + 0) ≤ 1 + 1
      rw [if_pos l70]
      omega
