def itr {α β : Type} (f : α → Option (α ⊕ β)) : Nat → α → Option α
  | 0, x => some x
  | n + 1, x => match f x with
    | some (.inl y) => itr f n y
    | _ => none
theorem itr_add {α β : Type} {f : α → Option (α ⊕ β)} : ∀ (a : Nat) {b : Nat} {x y z : α}, itr f a x = some y → itr f b y = some z → itr f (a + b) x = some z := by
  intro a
  induction a with
  | zero =>
    intro b x y z h1 h2
    have : x = y := Option.some.inj h1
    rw [Nat.zero_add, this]
    exact h2
  | succ a ih =>
    intro b x y z h1 h2
    rw [Nat.succ_add]
    unfold itr at h1 ⊢
    split at h1
    · rename_i y' e
      exact ih h1 h2
    · exact nomatch h1
theorem itr_1 {α β : Type} {f : α → Option (α ⊕ β)} {x y : α} (h : f x = some (.inl y)) : itr f 1 x = some y := by
  unfold itr
  rw [h]
  rfl
theorem loop_itr {α β : Type} {f : α → Option (α ⊕ β)} : ∀ (a : Nat) {m : Nat} {x y : α}, itr f a x = some y → loopN f (a + m) x = loopN f m y := by
  intro a
  induction a with
  | zero =>
    intro m x y h
    have : x = y := Option.some.inj h
    rw [Nat.zero_add, this]
  | succ a ih =>
    intro m x y h
    rw [Nat.succ_add]
    unfold itr at h
    split at h
    · rename_i y' e
      rw [loop_st e]
      exact ih h
    · exact nomatch h
noncomputable def zv (P : Prop) : Nat := ii P 1 0
theorem zv_t {P : Prop} (h : P) : zv P = 1 := ii_t h
theorem zv_f {P : Prop} (h : ¬ P) : zv P = 0 := ii_f h
theorem zv_r (P : Prop) : zv P < 2 := by
  by_cases h : P
  · rw [zv_t h]; omega
  · rw [zv_f h]; omega
theorem H_pre {S : Nat → Nat × Nat} {Q : Nat → Int → Int} {w : Nat → Nat → Int64} {rf : Nat → Nat → Option Nat} {g : Int} {sz : Nat} {s : Int32} {i st : Nat} (hS : SCok S) (hr : RCok rf) (hsz : Q 197 3 = sz) (h40 : sz ≤ 40) (hi : i < sz) (hst : rf 198 i = some st) (h31 : st < 31) : fX7_holds_L6 S (mk Q w rf) 197 104 67 (I g) (s, I i) = (if swm st = (17 : Int32) then nm (s ^^^ (1 : Int32)) fun v5 => fX7_holds_b128 S (mk Q w rf) 197 104 67 (I g) v5 (I i) else if swm st = (23 : Int32) then nm ((s >>> ((1 : Int32) &&& 31)) &&& ((s &&& (1 : Int32)) ||| (-2 : Int32))) fun v6 => fX7_holds_b128 S (mk Q w rf) 197 104 67 (I g) v6 (I i) else if swm st = (24 : Int32) then nm ((s >>> ((1 : Int32) &&& 31)) ||| (s &&& (1 : Int32))) fun v7 => fX7_holds_b128 S (mk Q w rf) 197 104 67 (I g) v7 (I i) else bd0 (fX7_isSo S (mk Q w rf) 197 (I i) 104 67 (I g)) fun v8 => if v8 = 0 then fX7_holds_b125 S (mk Q w rf) 197 104 67 (I g) (I i) (s <<< ((1 : Int32) &&& 31)) (0 : Int32) else fX7_holds_b125 S (mk Q w rf) 197 104 67 (I g) (I i) (s <<< ((1 : Int32) &&& 31)) (1 : Int32)) := by
  have e3 : (mk Q w rf).1 197 3 = I sz := by rw [mk_1, castI, hsz]
  have nle : ¬ (I (sz : Int) ≤ I (i : Int)) := by rw [I_le (by omega) (by omega)]; omega
  unfold fX7_holds_L6
  rw [un2_eq, e3, if_neg nle, nm_eq, gC197_0 hr, ldR_mk (shC198 hS) (by omega) (by omega) (show rf 198 ((i : Int)).toNat = some st from hst), ldS_k h31]
theorem H_b128 {S : Nat → Nat × Nat} {σ : mm} {x v : Int32} {i : Nat} : fX7_holds_b128 S σ 197 104 67 x v (I i) = some (.inl (v, I ((i + 1 : Nat) : Int))) := by
  unfold fX7_holds_b128
  rw [nm_eq, show (1 : Int32) = I 1 from rfl, I_add]
  rfl
theorem swm_h : ∀ k : Fin 31, (k.val = 21 → swm k.val = 17) ∧ (k.val = 20 → swm k.val = 23) ∧ (k.val = 19 → swm k.val = 24) ∧ (22 ≤ k.val → swm k.val ≠ 17 ∧ swm k.val ≠ 23 ∧ swm k.val ≠ 24) := by decide +kernel
theorem H_not {S : Nat → Nat × Nat} {Q : Nat → Int → Int} {w : Nat → Nat → Int64} {rf : Nat → Nat → Option Nat} {g : Int} {sz : Nat} {s i : Nat} {z : Nat} (hS : SCok S) (hr : RCok rf) (hsz : Q 197 3 = sz) (h40 : sz ≤ 40) (hi : i < sz) (hst : rf 198 i = some 21) (hs : s < 1073741824) (hz : z < 2) : fX7_holds_L6 S (mk Q w rf) 197 104 67 (I g) (I ((2 * s + z : Nat) : Int), I i) = some (.inl (I ((2 * s + (1 - z) : Nat) : Int), I ((i + 1 : Nat) : Int))) := by
  rw [H_pre hS hr hsz h40 hi hst (by omega), if_pos (show swm 21 = (17 : Int32) from rfl), nm_eq, show (1 : Int32) = I 1 from rfl, i_xor1 hs hz, H_b128]
theorem H_and {S : Nat → Nat × Nat} {Q : Nat → Int → Int} {w : Nat → Nat → Int64} {rf : Nat → Nat → Option Nat} {g : Int} {sz : Nat} {s i a b : Nat} (hS : SCok S) (hr : RCok rf) (hsz : Q 197 3 = sz) (h40 : sz ≤ 40) (hi : i < sz) (hst : rf 198 i = some 20) (hs : s < 536870912) (ha : a < 2) (hb : b < 2) : fX7_holds_L6 S (mk Q w rf) 197 104 67 (I g) (I ((2 * (2 * s + a) + b : Nat) : Int), I i) = some (.inl (I ((2 * s + a * b : Nat) : Int), I ((i + 1 : Nat) : Int))) := by
  have e := i_and hs ha hb
  rw [H_pre hS hr hsz h40 hi hst (by omega), if_neg (show ¬ (swm 20 = (17 : Int32)) from by decide), if_pos (show swm 20 = (23 : Int32) from rfl), nm_eq]
  refine Eq.trans (congrArg (fun x => fX7_holds_b128 S (mk Q w rf) 197 104 67 (I g) x (I i)) (show _ = I ((2 * s + a * b : Nat) : Int) from e)) ?_
  exact H_b128
theorem H_or {S : Nat → Nat × Nat} {Q : Nat → Int → Int} {w : Nat → Nat → Int64} {rf : Nat → Nat → Option Nat} {g : Int} {sz : Nat} {s i a b : Nat} (hS : SCok S) (hr : RCok rf) (hsz : Q 197 3 = sz) (h40 : sz ≤ 40) (hi : i < sz) (hst : rf 198 i = some 19) (hs : s < 536870912) (ha : a < 2) (hb : b < 2) : fX7_holds_L6 S (mk Q w rf) 197 104 67 (I g) (I ((2 * (2 * s + a) + b : Nat) : Int), I i) = some (.inl (I ((2 * s + (a + b - a * b) : Nat) : Int), I ((i + 1 : Nat) : Int))) := by
  have e := i_oo hs ha hb
  rw [H_pre hS hr hsz h40 hi hst (by omega), if_neg (show ¬ (swm 19 = (17 : Int32)) from by decide), if_neg (show ¬ (swm 19 = (23 : Int32)) from by decide), if_pos (show swm 19 = (24 : Int32) from rfl), nm_eq]
  refine Eq.trans (congrArg (fun x => fX7_holds_b128 S (mk Q w rf) 197 104 67 (I g) x (I i)) (show _ = I ((2 * s + (a + b - a * b) : Nat) : Int) from e)) ?_
  exact H_b128
theorem H_leaf {S : Nat → Nat × Nat} {Q : Nat → Int → Int} {w : Nat → Nat → Int64} {rf : Nat → Nat → Option Nat} {g : Int} {sz : Nat} {s i st : Nat} {P : Prop} (hS : SCok S) (hr : RCok rf) (hsz : Q 197 3 = sz) (h40 : sz ≤ 40) (hi : i < sz) (hst : rf 198 i = some st) (h22 : 22 ≤ st ∧ st < 31) (hs : s < 1073741824) (hP : fX7_isSo S (mk Q w rf) 197 (I i) 104 67 (I g) = some (b2 P)) : fX7_holds_L6 S (mk Q w rf) 197 104 67 (I g) (I (s : Int), I i) = some (.inl (I ((2 * s + zv P : Nat) : Int), I ((i + 1 : Nat) : Int))) := by
  have sw : ∀ _ : Unit, swm st ≠ 17 ∧ swm st ≠ 23 ∧ swm st ≠ 24 := fun _ => (swm_h ⟨st, h22.2⟩).2.2.2 h22.1
  have e := i_shl hs
  have e' : I (s : Int) <<< ((1 : Int32) &&& 31) = I ((2 * s : Nat) : Int) := e
  rw [H_pre hS hr hsz h40 hi hst h22.2, if_neg (sw ()).1, if_neg (sw ()).2.1, if_neg (sw ()).2.2, hP, bd0_s, e']
  unfold fX7_holds_b125
  by_cases q : P
  · rw [if_neg (show ¬ (b2 P = 0) from fun h => b2_0.1 h q), nm_eq, show (1 : Int32) = I ((1 : Nat) : Int) from rfl, i_or hs (by omega), H_b128, zv_t q]
  · rw [if_pos (show b2 P = 0 from b2_0.2 q), nm_eq, show (0 : Int32) = I ((0 : Nat) : Int) from rfl, i_or hs (by omega), H_b128, zv_f q]
theorem C_hv {S : Nat → Nat × Nat} {Q : Nat → Int → Int} {w : Nat → Nat → Int64} {rf : Nat → Nat → Option Nat} {g : Int} {sz : Nat} {N : Int → Int} (hS : SCok S) (hr : RCok rf) (hsz : Q 197 3 = sz) (h40 : sz ≤ 40) (wf : WFP N) (lo : LOK N) (cp : CP 67 Q N) (cl : CL 104 Q N) (hg : 0 ≤ g ∧ g < N 1) : ∀ (f : Nat) (k : Int) (T : List (Int × Int × Int × Int)), pfx (ndN N) f k = some T → ∀ (i0 s : Nat), (∀ (j : Nat) (h : j < T.length), tokR T[j] (rf 198 (i0 + j)) (Q 199 ((i0 + j : Nat) : Int)) (Q 200 ((i0 + j : Nat) : Int))) → i0 + T.length ≤ sz → (s + 1) * 2 ^ lvs T ≤ 536870912 → itr (fX7_holds_L6 S (mk Q w rf) 197 104 67 (I g)) T.length (I (s : Int), I i0) = some (I ((2 * s + zv (hvA N g f k) : Nat) : Int), I ((i0 + T.length : Nat) : Int)) := by
  intro f
  induction f with
  | zero => intro k T h; exact nomatch h
  | succ f ih =>
    intro k T h i0 s hT hl hb
    have okA' : ∀ t ∈ T, okT t := fun t ht => by
      obtain ⟨j, hj, e⟩ := List.getElem_of_mem ht
      have := hT j hj
      rw [e] at this
      exact okT_of this
    unfold pfx at h
    unfold hvA
    by_cases c1 : ndN N (4 * k) = 1
    · rw [if_pos c1] at h
      rw [ii_t c1]
      cases e : pfx (ndN N) f (ndN N (4 * k + 1)) with
      | none => rw [e] at h; exact nomatch h
      | some A =>
        rw [e] at h
        have hTe : T = A ++ [(1, 0, 0, 0)] := (Option.some.inj h).symm
        have okA2 : ∀ t ∈ A, okT t := fun t ht => okA' t (by rw [hTe]; exact List.mem_append_left _ ht)
        have lA := lvs_pfx f _ A e okA2
        have len : T.length = A.length + 1 := by rw [hTe, List.length_append, List.length_singleton]
        have lv : lvs T = lvs A := by
          rw [hTe, lvs_app]
          have : lvs [((1 : Int), (0 : Int), (0 : Int), (0 : Int))] = 0 := by decide
          rw [this, Nat.add_zero]
        rw [lv] at hb
        have p2 : 2 ^ 1 ≤ 2 ^ lvs A := Nat.pow_le_pow_right (by omega) lA.1
        have sb' : (s + 1) * 2 ^ 1 ≤ 536870912 := Nat.le_trans (Nat.mul_le_mul_left _ p2) hb
        have iA := ih _ A e i0 s (fun j hj => by
          have := hT j (by omega)
          have e2 : T[j]'(by omega) = A[j] := by
            subst hTe
            exact List.getElem_append_left hj
          rw [e2] at this
          exact this) (by omega) hb
        have tl := hT A.length (by omega)
        have e3 : T[A.length]'(by omega) = (1, 0, 0, 0) := by
          subst hTe
          exact List.getElem_concat_length rfl _
        rw [e3] at tl
        have hst : rf 198 (i0 + A.length) = some 21 := by
          unfold tokR at tl
          dsimp only at tl
          rcases tl with ⟨-, z⟩ | ⟨z, -⟩ | ⟨z, -⟩ | ⟨z, -⟩ | ⟨z, -⟩ | ⟨z, -⟩
          · exact z
          · exact absurd z (by decide)
          · exact absurd z (by decide)
          · exact absurd z.1 (by decide)
          · exact absurd z (by decide)
          · exact absurd z.1 (by decide)
        generalize hvA N g f (ndN N (4 * k + 1)) = PA at *
        have st := H_not (w := w) (g := g) (z := zv PA) hS hr hsz h40 (show i0 + A.length < sz by omega) hst (show s < 1073741824 by omega) (zv_r PA)
        rw [len]
        have r := itr_add A.length iA (itr_1 st)
        have ez : 1 - zv PA = zv (¬ PA) := by
          by_cases q : PA
          · rw [zv_t q, zv_f (fun h => h q)]
          · rw [zv_f q, zv_t q]
        rw [ez] at r
        exact r
    rw [if_neg c1] at h
    rw [ii_f c1]
    by_cases c23 : ndN N (4 * k) = 2 ∨ ndN N (4 * k) = 3
    · rw [if_pos c23] at h
      cases e : pfx (ndN N) f (ndN N (4 * k + 1)) with
      | none => rw [e] at h; exact nomatch h
      | some A =>
        cases e' : pfx (ndN N) f (ndN N (4 * k + 2)) with
        | none => rw [e, e'] at h; exact nomatch h
        | some B =>
          rw [e, e'] at h
          have hTe : T = A ++ (B ++ [(ndN N (4 * k), 0, 0, 0)]) := (Option.some.inj h).symm
          have okA2 : ∀ t ∈ A, okT t := fun t ht => okA' t (by rw [hTe]; exact List.mem_append_left _ ht)
          have okB2 : ∀ t ∈ B, okT t := fun t ht => okA' t (by rw [hTe]; exact List.mem_append_right _ (List.mem_append_left _ ht))
          have lA := lvs_pfx f _ A e okA2
          have lB := lvs_pfx f _ B e' okB2
          have len : T.length = A.length + (B.length + 1) := by rw [hTe, List.length_append, List.length_append, List.length_singleton]
          have lv : lvs T = lvs A + lvs B := by
            rw [hTe, lvs_app, lvs_app]
            have : lvs [(ndN N (4 * k), (0 : Int), (0 : Int), (0 : Int))] = 0 := by
              show (if 70 ≤ ndN N (4 * k) then 1 else 0) + 0 = 0
              rw [if_neg (by omega)]
            rw [this, Nat.add_zero]
          rw [lv] at hb
          have pA : (s + 1) * 2 ^ lvs A ≤ 536870912 := Nat.le_trans (Nat.mul_le_mul_left _ (Nat.pow_le_pow_right (by omega) (by omega : lvs A ≤ lvs A + lvs B))) hb
          have p2 : (s + 1) * 2 ^ 2 ≤ 536870912 := Nat.le_trans (Nat.mul_le_mul_left _ (Nat.pow_le_pow_right (by omega) (by omega : 2 ≤ lvs A + lvs B))) hb
          have pB0 : (s + 1) * 2 ^ (1 + lvs B) ≤ 536870912 := Nat.le_trans (Nat.mul_le_mul_left _ (Nat.pow_le_pow_right (by omega) (by omega : 1 + lvs B ≤ lvs A + lvs B))) hb
          have iA := ih _ A e i0 s (fun j hj => by
            have := hT j (by omega)
            have e2 : T[j]'(by omega) = A[j] := by
              subst hTe
              exact List.getElem_append_left hj
            rw [e2] at this
            exact this) (by omega) pA
          generalize hvA N g f (ndN N (4 * k + 1)) = PA at *
          have za := zv_r PA
          have pB : ((2 * s + zv PA) + 1) * 2 ^ lvs B ≤ 536870912 := by
            refine Nat.le_trans (Nat.mul_le_mul_right _ (by omega : 2 * s + zv PA + 1 ≤ (s + 1) * 2)) ?_
            rw [Nat.mul_assoc]
            rw [Nat.pow_add] at pB0
            exact pB0
          have iB := ih _ B e' (i0 + A.length) (2 * s + zv PA) (fun j hj => by
            have := hT (A.length + j) (by omega)
            have e2 : T[A.length + j]'(by omega) = B[j] := by
              subst hTe
              rw [List.getElem_append_right (by omega)]
              have : A.length + j - A.length = j := by omega
              simp only [this]
              exact List.getElem_append_left hj
            rw [e2, ← Nat.add_assoc] at this
            exact this) (by omega) pB
          generalize hvA N g f (ndN N (4 * k + 2)) = PB at *
          have zb := zv_r PB
          have tl := hT (A.length + B.length) (by omega)
          have e3 : T[A.length + B.length]'(by omega) = (ndN N (4 * k), 0, 0, 0) := by
            subst hTe
            rw [List.getElem_append_right (by omega)]
            have : A.length + B.length - A.length = B.length := by omega
            simp only [this]
            exact List.getElem_concat_length rfl _
          rw [e3, ← Nat.add_assoc] at tl
          have r0 := itr_add A.length iA iB
          have enum : A.length + (B.length + 1) = A.length + B.length + 1 := by omega
          have enum2 : i0 + A.length + B.length + 1 = i0 + (A.length + B.length + 1) := by omega
          rw [len, enum]
          by_cases c2 : ndN N (4 * k) = 2
          · rw [ii_t c2]
            have hst : rf 198 (i0 + A.length + B.length) = some 20 := by
              unfold tokR at tl
              dsimp only at tl
              rw [c2] at tl
              rcases tl with ⟨z, -⟩ | ⟨-, z⟩ | ⟨z, -⟩ | ⟨z, -⟩ | ⟨z, -⟩ | ⟨z, -⟩
              · exact absurd z (by decide)
              · exact z
              · exact absurd z (by decide)
              · exact absurd z.1 (by decide)
              · exact absurd z (by decide)
              · exact absurd z.1 (by decide)
            have st := H_and (w := w) (g := g) (s := s) (a := zv PA) (b := zv PB) hS hr hsz h40 (show i0 + A.length + B.length < sz by omega) hst (by omega) za zb
            have r := itr_add (A.length + B.length) r0 (itr_1 st)
            have ez : zv PA * zv PB = zv (PA ∧ PB) := by
              by_cases q : PA
              · by_cases q2 : PB
                · rw [zv_t q, zv_t q2, zv_t ⟨q, q2⟩]
                · rw [zv_t q, zv_f q2, zv_f (fun h => q2 h.2)]
              · rw [zv_f q, Nat.zero_mul, zv_f (show ¬ (PA ∧ PB) from fun h => q h.1)]
            rw [ez, enum2] at r
            exact r
          · have c3 : ndN N (4 * k) = 3 := by omega
            rw [ii_f c2, ii_t c3]
            have hst : rf 198 (i0 + A.length + B.length) = some 19 := by
              unfold tokR at tl
              dsimp only at tl
              rw [c3] at tl
              rcases tl with ⟨z, -⟩ | ⟨z, -⟩ | ⟨-, z⟩ | ⟨z, -⟩ | ⟨z, -⟩ | ⟨z, -⟩
              · exact absurd z (by decide)
              · exact absurd z (by decide)
              · exact z
              · exact absurd z.1 (by decide)
              · exact absurd z (by decide)
              · exact absurd z.1 (by decide)
            have st := H_or (w := w) (g := g) (s := s) (a := zv PA) (b := zv PB) hS hr hsz h40 (show i0 + A.length + B.length < sz by omega) hst (by omega) za zb
            have r := itr_add (A.length + B.length) r0 (itr_1 st)
            have ez : zv PA + zv PB - zv PA * zv PB = zv (PA ∨ PB) := by
              by_cases q : PA
              · by_cases q2 : PB
                · rw [zv_t q, zv_t q2, zv_t (Or.inl q)]
                · rw [zv_t q, zv_f q2, zv_t (Or.inl q)]
              · by_cases q2 : PB
                · rw [zv_f q, zv_t q2, zv_t (Or.inr q2)]
                · rw [zv_f q, zv_f q2, zv_f (fun h => h.elim q q2)]
            rw [ez, enum2] at r
            exact r
    · rw [if_neg c23] at h
      have hTe : T = [(ndN N (4 * k), ndN N (4 * k + 1), ndN N (4 * k + 2), ndN N (4 * k + 3))] := (Option.some.inj h).symm
      have len : T.length = 1 := by rw [hTe, List.length_singleton]
      have tl := hT 0 (by omega)
      have e3 : T[0]'(by omega) = (ndN N (4 * k), ndN N (4 * k + 1), ndN N (4 * k + 2), ndN N (4 * k + 3)) := by
        subst hTe
        rfl
      rw [e3] at tl
      have ok := okT_of tl
      have lk : lfK (ndN N (4 * k), ndN N (4 * k + 1), ndN N (4 * k + 2), ndN N (4 * k + 3)) := by
        unfold okT at ok
        dsimp only at ok
        rcases ok with h1 | h1 | h1 | h1
        · exact absurd h1 c1
        · exact absurd (Or.inl h1) c23
        · exact absurd (Or.inr h1) c23
        · exact h1
      have l70 := lk.1
      dsimp only at l70
      have hst : ∃ st, rf 198 (i0 + 0) = some st ∧ 22 ≤ st ∧ st < 31 := by
        unfold tokR at tl
        dsimp only at tl
        rcases tl with ⟨z, -⟩ | ⟨z, -⟩ | ⟨z, -⟩ | ⟨z, z2⟩ | ⟨z, z2, -⟩ | ⟨z, z2, -⟩
        · omega
        · omega
        · omega
        · exact ⟨_, z2, by omega, by omega⟩
        · exact ⟨_, z2, by omega, by omega⟩
        · exact ⟨_, z2, by omega, by omega⟩
      obtain ⟨st, hst, h22⟩ := hst
      rw [hst] at tl
      have lv : lvs T = 1 := by
        rw [hTe]
        show (if 70 ≤ ndN N (4 * k) then 1 else 0) + 0 = 1
        rw [if_pos l70.1]
      rw [lv] at hb
      have cL := C_leaf (S := S) (w := w) (i := ((i0 + 0 : Nat) : Int)) hS hr wf lo cp cl hg (by omega) hst tl l70.1
      rw [ii_f (fun h2 => c23 (Or.inl h2)), ii_f (fun h2 => c23 (Or.inr h2)), len]
      exact itr_1 (H_leaf hS hr hsz h40 (show i0 + 0 < sz by omega) hst h22 (by omega) cL)
theorem op_said {S S' : Nat → Nat × Nat} (hS : SCok S) (hS' : SMok S') (a1 : Int32) : OpC0 (fun σ => fX12_said S σ 64 a1) (fun σ => fX13_said S' σ 64 a1) := by
  intro t σC σM ⟨Q, w, rf, Rz, v, rm, q1, q2, hr, hr', invz, txz⟩
  subst q1
  subst q2
  have inv := INV_th invz
  have tx := tx0 txz
  have inv' := inv
  have epre : fX13_said S' (mk Rz v rm) 64 a1 = gR (mk (th0 Rz) v rm) 64 14 fun r2 => ldI S' (mk (th0 Rz) v rm) r2 (141 : Int32) fun v3 => if ¬ v3 = 0 then bd0 (loopN (fX13_said_L22 S' (mk (th0 Rz) v rm) 64 a1) 1000 ((0 : Int32), (0 : Int32))) (cs2 (fun v5 => some (v5, mk (th0 Rz) v rm)) (fun v6 => if ¬ a1 = (-1 : Int32) then fX13_said_b77 S' (mk (th0 Rz) v rm) (-1 : Int32) else fX13_said_b77 S' (mk (th0 Rz) v rm) v6)) else some ((-1 : Int32), mk (th0 Rz) v rm) := by
    unfold fX13_said
    rw [th0_I]
  generalize th0 Rz = R at *
  obtain ⟨ta, ⟨wf, cp, nam⟩, ⟨lo, cl⟩, ur, fa, wk, ro, se, im, sw⟩ := inv
  have wn1 := wf.2.1
  have l141 : ∀ F : Int32 → Option (Int32 × mm), ldI S' (mk R v rm) 66 (141 : Int32) F = F (I (R 66 141)) := fun F => ldM66 (z := 141) hS' (by omega)
  have e4 : (mk Q w rf).1 197 4 = I (Q 197 4) := by rw [mk_1, castI]
  rw [gM14 hr', l141] at epre
  rcases se with ⟨s1, s2⟩ | ⟨s1, s2, s3, T, s4, s5, s6, s7⟩
  · refine ⟨-1, mk R v rm, ?_, ?_, Q, w, rf, R, v, rm, rfl, rfl, hr, hr', inv', tx⟩
    · show fX12_said S (mk Q w rf) 64 a1 = _
      unfold fX12_said
      rw [gC64_10 hr, e4, s2, if_neg (show ¬ ¬ (I 0 = (0 : Int32)) from fun h => h rfl)]
    · show fX13_said S' (mk Rz v rm) 64 a1 = _
      rw [epre, s1, if_neg (show ¬ ¬ (I 0 = (0 : Int32)) from fun h => h rfl)]
  have okT' : ∀ t ∈ T, okT t := fun t ht => by
    obtain ⟨j, hj, e⟩ := List.getElem_of_mem ht
    have := s7 j hj
    rw [e] at this
    exact okT_of this
  have lv := lvs_pfx 60 _ T s4 okT'
  have ch : ∀ g, 0 ≤ g → g < R 66 1 → fX7_holds S (mk Q w rf) 197 104 67 (I g) = some (b2 (hvA (R 66) g 60 (R 66 142))) := by
    intro g g1 g2
    have it := C_hv (S := S) (w := w) (sz := T.length) hS hr s5 s6 wf lo cp cl ⟨g1, g2⟩ 60 _ T s4 0 0 (fun j hj => by rw [Nat.zero_add]; exact s7 j hj) (by omega) (by
      rw [Nat.zero_add, Nat.one_mul]
      exact Nat.le_trans (Nat.pow_le_pow_right (by omega) (by omega : lvs T ≤ 20)) (by decide))
    have it' : itr (fX7_holds_L6 S (mk Q w rf) 197 104 67 (I g)) T.length ((0 : Int32), (0 : Int32)) = some (I ((2 * 0 + zv (hvA (R 66) g 60 (R 66 142)) : Nat) : Int), I ((0 + T.length : Nat) : Int)) := it
    have lo' := loop_itr (m := 1000 - T.length) T.length it'
    have e1000 : T.length + (1000 - T.length) = (999 - T.length) + 1 + T.length := by omega
    have em : 1000 - T.length = (999 - T.length) + 1 := by omega
    have e3 : (mk Q w rf).1 197 3 = I T.length := by rw [mk_1, castI, s5]
    have ex : fX7_holds_L6 S (mk Q w rf) 197 104 67 (I g) (I ((2 * 0 + zv (hvA (R 66) g 60 (R 66 142)) : Nat) : Int), I ((0 + T.length : Nat) : Int)) = some (.inr (I ((2 * 0 + zv (hvA (R 66) g 60 (R 66 142)) : Nat) : Int))) := by
      unfold fX7_holds_L6
      rw [un2_eq, e3, if_pos (show I (T.length : Int) ≤ I ((0 + T.length : Nat) : Int) from by rw [Nat.zero_add, I_le (by omega) (by omega)]; omega)]
    rw [em, loop_ex ex] at lo'
    have e5 : T.length + (999 - T.length + 1) = 1000 := by omega
    rw [e5] at lo'
    unfold fX7_holds
    rw [lo', bd0_s, show (1 : Int32) = I 1 from rfl, i_and1 (by omega) (zv_r _)]
    by_cases q : hvA (R 66) g 60 (R 66 142)
    · rw [zv_t q, if_neg (show ¬ ¬ (I ((1 : Nat) : Int) = I 1) from fun h => h rfl), b2_t q]; rfl
    · rw [zv_f q, if_pos (show ¬ (I ((0 : Nat) : Int) = I 1) from by decide), b2_f q]; rfl
  have mh : ∀ g, 0 ≤ g → g < R 66 1 → gX13_holds S' 100 0 (mk R v rm) 64 (I (R 66 142)) (I g) = some (b2 (hvA (R 66) g 60 (R 66 142))) := fun g g1 g2 => M_hv hS' hr' wf lo ⟨g1, g2⟩ 60 _ T s4 okT' 100 (by omega)
  have c12 : (mk Q w rf).1 67 12 = I (R 66 1) := by rw [mk_1, castI]; exact congrArg I cp.1.2.1
  have l1 : ∀ F : Int32 → Option ((Int32 × Int32) ⊕ (Int32 ⊕ Int32)), ldI S' (mk R v rm) 66 (1 : Int32) F = F (I (R 66 1)) := fun F => ldM66 (z := 1) hS' (by omega)
  have l142 : ∀ F : Int32 → Option ((Int32 × Int32) ⊕ (Int32 ⊕ Int32)), ldI S' (mk R v rm) 66 (142 : Int32) F = F (I (R 66 142)) := fun F => ldM66 (z := 142) hS' (by omega)
  have step : ∀ (x : Int32) (g : Int), 0 ≤ g → g < R 66 1 → (∃ y, fX12_said_L16 S (mk Q w rf) 64 a1 (x, I g) = some (.inl (y, I (g + 1))) ∧ fX13_said_L22 S' (mk R v rm) 64 a1 (x, I g) = some (.inl (y, I (g + 1)))) ∨ (∃ r, fX12_said_L16 S (mk Q w rf) 64 a1 (x, I g) = some (.inr r) ∧ fX13_said_L22 S' (mk R v rm) 64 a1 (x, I g) = some (.inr r)) := by
    intro x g g1 g2
    have nle : ¬ (I (R 66 1) ≤ I g) := by rw [I_le (by omega) (by omega)]; omega
    have b1 : ∀ y : Int32, fX12_said_b56 S (mk Q w rf) 64 a1 y (I g) = some (.inl (y, I (g + 1))) ∧ fX13_said_b61 S' (mk R v rm) 64 a1 y (I g) = some (.inl (y, I (g + 1))) := fun y => by
      unfold fX12_said_b56 fX13_said_b61
      rw [nm_eq, show (1 : Int32) = I 1 from rfl, I_add]
      exact ⟨rfl, rfl⟩
    unfold fX12_said_L16 fX13_said_L22
    rw [un2_eq, un2_eq, gC64_1 hr, c12, if_neg nle, gC64_10 hr, gC64_4 hr, gC64_1 hr, ch g g1 g2, bd0_s, gM14 hr', l1, if_neg nle, gM14 hr', l142, mh g g1 g2, bd0_s]
    by_cases q : hvA (R 66) g 60 (R 66 142)
    · have nz : ¬ (b2 (hvA (R 66) g 60 (R 66 142)) = 0) := fun h => b2_0.1 h q
      rw [if_neg nz, if_pos nz]
      by_cases e : x = a1
      · exact Or.inr ⟨.inl (I g), by rw [if_neg (show ¬ ¬ (x = a1) from fun h => h e)], by rw [if_neg (show ¬ ¬ (x = a1) from fun h => h e)]⟩
      · exact Or.inl ⟨x + 1, by rw [if_pos e, nm_eq]; exact (b1 _).1, by rw [if_pos e, nm_eq]; exact (b1 _).2⟩
    · have nz : b2 (hvA (R 66) g 60 (R 66 142)) = 0 := b2_0.2 q
      rw [if_pos nz, if_neg (show ¬ ¬ (b2 (hvA (R 66) g 60 (R 66 142)) = 0) from fun h => h nz)]
      exact Or.inl ⟨x, (b1 _).1, (b1 _).2⟩
  have last : ∀ (x : Int32), fX12_said_L16 S (mk Q w rf) 64 a1 (x, I (R 66 1)) = some (.inr (.inr x)) ∧ fX13_said_L22 S' (mk R v rm) 64 a1 (x, I (R 66 1)) = some (.inr (.inr x)) := by
    intro x
    have le : I (R 66 1) ≤ I (R 66 1) := by rw [I_le (by omega) (by omega)]; omega
    unfold fX12_said_L16 fX13_said_L22
    rw [un2_eq, un2_eq, gC64_1 hr, c12, if_pos le, gM14 hr', l1, if_pos le]
    exact ⟨rfl, rfl⟩
  have run : ∀ (d : Nat) (g : Int) (x : Int32) (fu : Nat), g + d = R 66 1 → 0 ≤ g → d < fu → ∃ r, loopN (fX12_said_L16 S (mk Q w rf) 64 a1) fu (x, I g) = some r ∧ loopN (fX13_said_L22 S' (mk R v rm) 64 a1) fu (x, I g) = some r := by
    intro d
    induction d with
    | zero =>
      intro g x fu hg h0 hf
      obtain ⟨f', rfl⟩ : ∃ y, fu = y + 1 := ⟨fu - 1, by omega⟩
      have eg : g = R 66 1 := by omega
      rw [eg]
      exact ⟨.inr x, loop_ex (last x).1, loop_ex (last x).2⟩
    | succ d ih =>
      intro g x fu hg h0 hf
      obtain ⟨f', rfl⟩ : ∃ y, fu = y + 1 := ⟨fu - 1, by omega⟩
      rcases step x g h0 (by omega) with ⟨y, p1, p2⟩ | ⟨r, p1, p2⟩
      · rw [loop_st p1, loop_st p2]
        exact ih (g + 1) y f' (by omega) (by omega) (by omega)
      · exact ⟨r, loop_ex p1, loop_ex p2⟩
  obtain ⟨r, r1, r2⟩ := run (R 66 1).toNat 0 (0 : Int32) 1000 (by omega) (by omega) (by omega)
  have r1' : loopN (fX12_said_L16 S (mk Q w rf) 64 a1) 1000 ((0 : Int32), (0 : Int32)) = some r := r1
  have r2' : loopN (fX13_said_L22 S' (mk R v rm) 64 a1) 1000 ((0 : Int32), (0 : Int32)) = some r := r2
  have n4 : ¬ (I (Q 197 4) = (0 : Int32)) := by rw [I_lit, I_eq (by omega) (by omega)]; omega
  have cpre : fX12_said S (mk Q w rf) 64 a1 = cs2 (fun v3 => some v3) (fun v4 => if ¬ a1 = (-1 : Int32) then fX12_said_b72 S (mk Q w rf) (-1 : Int32) else fX12_said_b72 S (mk Q w rf) v4) r := by
    unfold fX12_said
    rw [gC64_10 hr, e4, if_pos n4, r1', bd0_s]
  rw [s1, if_pos (show ¬ (I 1 = (0 : Int32)) from by decide), r2', bd0_s] at epre
  cases r with
  | inl x => exact ⟨x, mk R v rm, cpre, epre, Q, w, rf, R, v, rm, rfl, rfl, hr, hr', inv', tx⟩
  | inr x =>
    rw [cs2_r] at cpre epre
    by_cases e : a1 = -1
    · rw [if_neg (show ¬ ¬ (a1 = (-1 : Int32)) from fun h => h e)] at cpre epre
      exact ⟨x, mk R v rm, cpre, epre, Q, w, rf, R, v, rm, rfl, rfl, hr, hr', inv', tx⟩
    · rw [if_pos e] at cpre epre
      exact ⟨-1, mk R v rm, cpre, epre, Q, w, rf, R, v, rm, rfl, rfl, hr, hr', inv', tx⟩
