def nd81 (r : Int → Int) : Int → Int := fun j => if j < 0 ∨ 240 ≤ j then 0 else r j
def WFN (nd : Int → Int) (m : Int) : Prop := ∀ k, 0 ≤ k → k < m → (nd (4 * k) = 1 → 0 ≤ nd (4 * k + 1) ∧ nd (4 * k + 1) < k) ∧ (nd (4 * k) = 2 ∨ nd (4 * k) = 3 → (0 ≤ nd (4 * k + 1) ∧ nd (4 * k + 1) < k) ∧ (0 ≤ nd (4 * k + 2) ∧ nd (4 * k + 2) < k))
theorem pfx_ext {nd nd' : Int → Int} {m : Int} (wn : WFN nd m) (h : ∀ j, 0 ≤ j → j < 4 * m → nd' j = nd j) : ∀ (f : Nat) (k : Int), 0 ≤ k → k < m → pfx nd' f k = pfx nd f k := by
  intro f
  induction f with
  | zero => intro k _ _; rfl
  | succ f ih =>
    intro k h1 h2
    obtain ⟨w1, w2⟩ := wn k h1 h2
    unfold pfx
    rw [h (4 * k) (by omega) (by omega), h (4 * k + 1) (by omega) (by omega), h (4 * k + 2) (by omega) (by omega), h (4 * k + 3) (by omega) (by omega)]
    by_cases c1 : nd (4 * k) = 1
    · rw [if_pos c1, if_pos c1, ih _ (w1 c1).1 (by have := (w1 c1).2; omega)]
    · rw [if_neg c1, if_neg c1]
      by_cases c2 : nd (4 * k) = 2 ∨ nd (4 * k) = 3
      · have := w2 c2
        rw [if_pos c2, if_pos c2, ih _ this.1.1 (by omega), ih _ this.2.1 (by omega)]
      · rw [if_neg c2, if_neg c2]
theorem pfx_mono {nd : Int → Int} : ∀ (f : Nat) (k : Int) (T : List (Int × Int × Int × Int)), pfx nd f k = some T → ∀ g, f ≤ g → pfx nd g k = some T := by
  intro f
  induction f with
  | zero => intro k T h; exact nomatch h
  | succ f ih =>
    intro k T h g hg
    obtain ⟨g', rfl⟩ : ∃ g', g = g' + 1 := ⟨g - 1, by omega⟩
    unfold pfx at h ⊢
    by_cases c1 : nd (4 * k) = 1
    · rw [if_pos c1] at h ⊢
      cases e : pfx nd f (nd (4 * k + 1)) with
      | none => rw [e] at h; exact nomatch h
      | some A => rw [e] at h; rw [ih _ A e g' (by omega)]; exact h
    · rw [if_neg c1] at h ⊢
      by_cases c2 : nd (4 * k) = 2 ∨ nd (4 * k) = 3
      · rw [if_pos c2] at h ⊢
        cases e : pfx nd f (nd (4 * k + 1)) with
        | none => rw [e] at h; exact nomatch h
        | some A =>
          cases e2 : pfx nd f (nd (4 * k + 2)) with
          | none => rw [e, e2] at h; exact nomatch h
          | some B => rw [e, e2] at h; rw [ih _ A e g' (by omega), ih _ B e2 g' (by omega)]; exact h
      · rw [if_neg c2] at h ⊢
        exact h
def FCs (Q Q' : Nat → Int → Int) (w w' : Nat → Nat → Int64) (rf rf' : Nat → Nat → Option Nat) : Prop := (∀ a, a ≠ 65 → a ≠ 201 → a ≠ 203 → a ≠ 204 → Q' a = Q a) ∧ (∀ a j, ¬ (a = 65 ∧ j = 7) → w' a j = w a j) ∧ (∀ a j, ¬ (a = 65 ∧ j = 8) → a ≠ 202 → rf' a j = rf a j) ∧ (senW (rf 202) → senW (rf' 202))
def FMs (R R' : Nat → Int → Int) (v v' : Nat → Nat → Int64) : Prop := (∀ a, a ≠ 64 → a ≠ 81 → R' a = R a) ∧ (∀ j, j < 5 ∨ (13 < j ∧ j < 39) ∨ 42 < j → R' 64 j = R 64 j) ∧ (∀ a j, ¬ (a = 64 ∧ j = 12) → v' a j = v a j)
theorem FCs_of {Q Q' : Nat → Int → Int} {w w' : Nat → Nat → Int64} {rf rf' : Nat → Nat → Option Nat} (h : fc65 Q Q' w w' rf rf') : FCs Q Q' w w' rf rf' := ⟨fun a h1 _ _ _ => h.1 a h1, h.2.2.1, fun a j h1 _ => h.2.2.2 a j h1, fun s => by rw [show rf' 202 = rf 202 from funext (fun j => h.2.2.2 202 j (by omega))]; exact s⟩
theorem FCs_trans {Q Q' Q'' : Nat → Int → Int} {w w' w'' : Nat → Nat → Int64} {rf rf' rf'' : Nat → Nat → Option Nat} (h : FCs Q Q' w w' rf rf') (h2 : FCs Q' Q'' w' w'' rf' rf'') : FCs Q Q'' w w'' rf rf'' := ⟨fun a x y z u => (h2.1 a x y z u).trans (h.1 a x y z u), fun a j x => (h2.2.1 a j x).trans (h.2.1 a j x), fun a j x y => (h2.2.2.1 a j x y).trans (h.2.2.1 a j x y), fun s => h2.2.2.2 (h.2.2.2 s)⟩
theorem FMs_of {R R' : Nat → Int → Int} {v v' : Nat → Nat → Int64} (h : fm64 R R' v v') : FMs R R' v v' := ⟨fun a h1 _ => h.1 a h1, fun j h1 => h.2.1 j (by omega), h.2.2⟩
theorem FMs_trans {R R' R'' : Nat → Int → Int} {v v' v'' : Nat → Nat → Int64} (h : FMs R R' v v') (h2 : FMs R' R'' v' v'') : FMs R R'' v v'' := ⟨fun a x y => (h2.1 a x y).trans (h.1 a x y), fun j x => (h2.2.1 j x).trans (h.2.1 j x), fun a j x => (h2.2.2 a j x).trans (h.2.2 a j x)⟩
theorem FMs_64 {R R' : Nat → Int → Int} {v v' : Nat → Nat → Int64} {j x : Int} (h : FMs R R' v v') (hj : 39 ≤ j ∧ j ≤ 42) : FMs R (setR R' 64 (updf (R' 64) j x)) v v' := ⟨fun a y z => by rw [setR_ne y]; exact h.1 a y z, fun i hi => by rw [setR_same, updf_ne (by omega)]; exact h.2.1 i hi, h.2.2⟩
theorem FMs_81 {R R' : Nat → Int → Int} {v v' : Nat → Nat → Int64} {X : Int → Int} (h : FMs R R' v v') : FMs R (setR R' 81 X) v v' := ⟨fun a y z => by rw [setR_ne z]; exact h.1 a y z, fun i hi => by rw [setR_ne (by omega)]; exact h.2.1 i hi, h.2.2⟩
theorem FCs_201 {Q Q' : Nat → Int → Int} {w w' : Nat → Nat → Int64} {rf rf' : Nat → Nat → Option Nat} {X : Int → Int} (h : FCs Q Q' w w' rf rf') : FCs Q (setR Q' 201 X) w w' rf rf' := ⟨fun a x y z u => by rw [setR_ne y]; exact h.1 a x y z u, h.2⟩
def SS (Q : Nat → Int → Int) (rf : Nat → Nat → Option Nat) (R : Nat → Int → Int) (L : List (Int × Int × Int × Int)) (o : Int) : Prop := (Q 201 3 = L.length ∧ R 64 39 = L.length) ∧ (Q 201 4 = o ∧ R 64 40 = o) ∧ (0 ≤ o ∧ o ≤ 20 ∧ (L.length : Int) ≤ 2 * o) ∧ (∀ (i : Nat) (h : i < L.length), tokR L[i] (rf 202 i) (Q 203 i) (Q 204 i)) ∧ WFN (nd81 (R 81)) L.length ∧ senW (rf 202)
def PN (Q : Nat → Int → Int) (w : Nat → Nat → Int64) (R : Nat → Int → Int) (v : Nat → Nat → Int64) : Prop := WFP (R 66) ∧ CP 67 Q (R 66) ∧ namR (w 68) (w 74) (w 81) (v 71) 0 (R 66)
theorem PN_fr {Q Q' : Nat → Int → Int} {w w' : Nat → Nat → Int64} {rf rf' : Nat → Nat → Option Nat} {R R' : Nat → Int → Int} {v v' : Nat → Nat → Int64} (h : PN Q w R v) (fc : FCs Q Q' w w' rf rf') (fm : FMs R R' v v') : PN Q' w' R' v' := by
  have e66 : R' 66 = R 66 := fm.1 66 (by omega) (by omega)
  have w68 : w' 68 = w 68 := funext (fun j => fc.2.1 68 j (by omega))
  have w74 : w' 74 = w 74 := funext (fun j => fc.2.1 74 j (by omega))
  have w81 : w' 81 = w 81 := funext (fun j => fc.2.1 81 j (by omega))
  have v71 : v' 71 = v 71 := funext (fun j => fm.2.2 71 j (by omega))
  unfold PN
  rw [e66, w68, w74, w81, v71]
  exact ⟨h.1, CP_q h.2.1 (fun a h1 h2 => fc.1 a (by omega) (by omega) (by omega) (by omega)), h.2.2⟩
def SO (S' : Nat → Nat × Nat) (rm : Nat → Nat → Option Nat) (n : Int) (L : List (Int × Int × Int × Int)) (o wi : Int) (Q : Nat → Int → Int) (w : Nat → Nat → Int64) (rf : Nat → Nat → Option Nat) (R : Nat → Int → Int) (v : Nat → Nat → Int64) (c m : Option (Int32 × mm)) : Prop := ∃ Q1 w1 rf1 R1 v1, FCs Q Q1 w w1 rf rf1 ∧ FMs R R1 v v1 ∧ RCok rf1 ∧ ((∃ T o1, c = some (1, mk Q1 w1 rf1) ∧ m = some (1, mk R1 v1 rm) ∧ SYN Q1 w1 rf1 R1 v1 n 200 ∧ SS Q1 rf1 R1 (L ++ T) o1 ∧ R1 64 41 = wi ∧ (0 ≤ R1 64 42 ∧ R1 64 42 < ((L ++ T).length : Int)) ∧ pfx (nd81 (R1 81)) ((R1 64 42).toNat + 1) (R1 64 42) = some T ∧ (∀ j, 0 ≤ j → j < 4 * (L.length : Int) → R1 81 j = R 81 j) ∧ (o < o1 ∧ (T.length : Int) + 1 ≤ 2 * (o1 - o))) ∨ (c = some (0, mk Q1 w1 rf1) ∧ m = some (0, mk R1 v1 rm) ∧ FAIL Q1 R1))
theorem C_addStep {S : Nat → Nat × Nat} {Q : Nat → Int → Int} {w : Nat → Nat → Int64} {rf : Nat → Nat → Option Nat} {b k : Nat} {x y : Int} (hS : SCok S) (hr : RCok rf) (hq : Q 201 3 = k) (hk : k < 40) : fX7_addStep S (mk Q w rf) 201 b (I x) (I y) = some (1, mk (setR (setR (setR Q 203 (updf (Q 203) k x)) 204 (updf (Q 204) k y)) 201 (updf (Q 201) 3 ((k : Int) + 1))) w (up2 rf 202 k (some b))) ∧ RCok (up2 rf 202 k (some b)) := by
  have hr2 : RCok (up2 rf 202 k (some b)) := RCok_of hr (fun a j h => up2_out (by unfold fxR at h; omega))
  refine ⟨?_, hr2⟩
  have h40 : ¬ ((40 : Int) ≤ (k : Int)) := by omega
  have e3 : ∀ (rf : Nat → Nat → Option Nat), (mk Q w rf).1 201 3 = I k := fun rf => by rw [mk_1, castI, hq]
  have ek : ((k : Int)).toNat = k := by omega
  unfold fX7_addStep
  rw [e3, if_neg (by rw [I_lit, I_le (by omega) (by omega)]; exact h40), gC201_0 hr, stR_mk (shC202 hS) (by omega) (by omega), ek]
  simp (disch := first | assumption | omega) only [I_lit, orb_I, I_add, I_sub, I_mul, I_neg, nm_eq, bd0_s, bd2_s, un2_eq, un3_eq, un4_eq, un5_eq, un6_eq, cs2_l, cs2_r, mk_1, mk_2, wI_mk, wL_mk, wR_mk, setR_same, setR_setR, rZ_0, rZ_1, rZ_b2, it_b2, it_nb2, it_b21, it_nb21, I_lt, I_le, I_eq, I_div, castI, if_true, if_false, Classical.not_not, gC201_1, gC201_2, hq, stC203, stC204, setR_ne]
  rfl
theorem M_says {S : Nat → Nat × Nat} {R : Nat → Int → Int} {w : Nat → Nat → Int64} {rf : Nat → Nat → Option Nat} {a b c d m : Int} (hS : SMok S) (hr : RMok rf) (h39 : R 64 39 = m) (hm : 0 ≤ m ∧ m < 60) : fX13_saysOne S (mk R w rf) 64 (I a) (I b) (I c) (I d) = some (I m, mk (setR (setR R 81 (updf (updf (updf (updf (R 81) (4 * m) a) (4 * m + 1) b) (4 * m + 2) c) (4 * m + 3) d)) 64 (updf (R 64) 39 (m + 1))) w rf) := by
  simp (disch := first | assumption | omega) only [fX13_saysOne, I_lit, orb_I, I_add, I_sub, I_mul, I_neg, nm_eq, bd0_s, bd2_s, un2_eq, un3_eq, un4_eq, un5_eq, un6_eq, cs2_l, cs2_r, mk_1, mk_2, wI_mk, wL_mk, wR_mk, setR_same, setR_setR, rZ_0, rZ_1, rZ_b2, it_b2, it_nb2, it_b21, it_nb21, I_lt, I_le, I_eq, I_div, castI, if_true, if_false, Classical.not_not, gM38, h39, stM81, setR_ne, updf_same]
  rw [show m + 1 - 1 = m from by omega]
def sayZ (R : Nat → Int → Int) (m a b c d : Int) : Nat → Int → Int := setR (setR R 81 (updf (updf (updf (updf (R 81) (4 * m) a) (4 * m + 1) b) (4 * m + 2) c) (4 * m + 3) d)) 64 (updf (R 64) 39 (m + 1))
def topR (R : Nat → Int → Int) (t : Int) : Nat → Int → Int := setR R 64 (updf (R 64) 42 t)
theorem say_o {R : Nat → Int → Int} {m a b c d : Int} {e : Nat} (h : e ≠ 64) (h2 : e ≠ 81) : sayZ R m a b c d e = R e := by
  unfold sayZ
  rw [setR_ne h, setR_ne h2]
theorem say_64 {R : Nat → Int → Int} {m a b c d : Int} {j : Int} (h : j ≠ 39) : sayZ R m a b c d 64 j = R 64 j := by
  unfold sayZ
  rw [setR_same, updf_ne h]
theorem say_81 {R : Nat → Int → Int} {m a b c d : Int} : sayZ R m a b c d 81 = updf (updf (updf (updf (R 81) (4 * m) a) (4 * m + 1) b) (4 * m + 2) c) (4 * m + 3) d := by
  unfold sayZ
  rw [setR_ne (by omega), setR_same]
theorem FMs_say {R R' : Nat → Int → Int} {v v' : Nat → Nat → Int64} {m a b c d : Int} (h : FMs R R' v v') : FMs R (sayZ R' m a b c d) v v' := ⟨fun e y z => by rw [say_o y z]; exact h.1 e y z, fun i hi => by rw [say_64 (by omega)]; exact h.2.1 i hi, h.2.2⟩
theorem nd_say {R : Nat → Int → Int} {m a b c d : Int} (hm : 0 ≤ m ∧ m < 60) : nd81 (sayZ R m a b c d 81) (4 * m) = a ∧ nd81 (sayZ R m a b c d 81) (4 * m + 1) = b ∧ nd81 (sayZ R m a b c d 81) (4 * m + 2) = c ∧ nd81 (sayZ R m a b c d 81) (4 * m + 3) = d ∧ (∀ j, 0 ≤ j → j < 4 * m → nd81 (sayZ R m a b c d 81) j = nd81 (R 81) j) := by
  rw [say_81]
  unfold nd81
  refine ⟨?_, ?_, ?_, ?_, fun j h1 h2 => ?_⟩
  · rw [if_neg (by omega), updf_ne (by omega), updf_ne (by omega), updf_ne (by omega), updf_same rfl]
  · rw [if_neg (by omega), updf_ne (by omega), updf_ne (by omega), updf_same rfl]
  · rw [if_neg (by omega), updf_ne (by omega), updf_same rfl]
  · rw [if_neg (by omega), updf_same rfl]
  · rw [if_neg (by omega), if_neg (by omega), updf_ne (by omega), updf_ne (by omega), updf_ne (by omega), updf_ne (by omega)]
theorem WFN_say {R : Nat → Int → Int} {m a b c d : Int} (hm : 0 ≤ m ∧ m < 60) (wn : WFN (nd81 (R 81)) m) (h1 : a = 1 → 0 ≤ b ∧ b < m) (h2 : a = 2 ∨ a = 3 → (0 ≤ b ∧ b < m) ∧ (0 ≤ c ∧ c < m)) : WFN (nd81 (sayZ R m a b c d 81)) (m + 1) := by
  obtain ⟨e0, e1, e2, e3, e4⟩ := nd_say (R := R) (a := a) (b := b) (c := c) (d := d) hm
  intro k g1 g2
  by_cases hk : k = m
  · rw [hk, e0, e1, e2]
    exact ⟨h1, h2⟩
  · rw [e4 (4 * k) (by omega) (by omega), e4 (4 * k + 1) (by omega) (by omega), e4 (4 * k + 2) (by omega) (by omega)]
    exact wn k g1 (by omega)
theorem SS_j {Q : Nat → Int → Int} {rf : Nat → Nat → Option Nat} {R R' : Nat → Int → Int} {L : List (Int × Int × Int × Int)} {o : Int} (ss : SS Q rf R L o) (h1 : R' 64 39 = R 64 39) (h2 : R' 64 40 = R 64 40) (h3 : R' 81 = R 81) : SS Q rf R' L o := by
  unfold SS
  rw [h1, h2, h3]
  exact ss
theorem SS_fc {Q Q' : Nat → Int → Int} {w w' : Nat → Nat → Int64} {rf rf' : Nat → Nat → Option Nat} {R : Nat → Int → Int} {L : List (Int × Int × Int × Int)} {o : Int} (ss : SS Q rf R L o) (h : fc65 Q Q' w w' rf rf') : SS Q' rf' R L o := by
  have e : rf' 202 = rf 202 := funext (fun j => h.2.2.2 202 j (by omega))
  unfold SS
  rw [h.1 201 (by omega), h.1 203 (by omega), h.1 204 (by omega), e]
  exact ss
theorem SS_fm {Q : Nat → Int → Int} {rf : Nat → Nat → Option Nat} {R R' : Nat → Int → Int} {v v' : Nat → Nat → Int64} {L : List (Int × Int × Int × Int)} {o : Int} (ss : SS Q rf R L o) (h : fm64 R R' v v') : SS Q rf R' L o := SS_j ss (h.2.1 39 (by omega)) (h.2.1 40 (by omega)) (h.1 81 (by omega))
def putQ (Q : Nat → Int → Int) (k x y : Int) : Nat → Int → Int := setR (setR (setR Q 203 (updf (Q 203) k x)) 204 (updf (Q 204) k y)) 201 (updf (Q 201) 3 (k + 1))
/-- a step and a node put behind the others, by both -/
theorem SS_put {Q : Nat → Int → Int} {rf : Nat → Nat → Option Nat} {R : Nat → Int → Int} {L : List (Int × Int × Int × Int)} {o a b c d x y : Int} {t : Int × Int × Int × Int} {s : Nat} (ss : SS Q rf R L o) (hl : L.length < 40) (ho : (L.length : Int) + 1 ≤ 2 * o) (hs : s < 31) (tk : tokR t (some s) x y) (h1 : a = 1 → 0 ≤ b ∧ b < L.length) (h2 : a = 2 ∨ a = 3 → (0 ≤ b ∧ b < L.length) ∧ (0 ≤ c ∧ c < L.length)) : SS (putQ Q L.length x y) (up2 rf 202 L.length (some s)) (sayZ R L.length a b c d) (L ++ [t]) o := by
  unfold putQ
  obtain ⟨⟨s1, s2⟩, ⟨s3, s4⟩, s5, s6, s7, s8⟩ := ss
  have el : (L ++ [t]).length = L.length + 1 := by rw [List.length_append]; rfl
  refine ⟨⟨?_, ?_⟩, ⟨?_, ?_⟩, ?_, ?_, ?_, ?_⟩
  · rw [setR_same, updf_same rfl, el]; rfl
  · unfold sayZ
    rw [setR_same, updf_same rfl, el]; rfl
  · rw [setR_same, updf_ne (by omega)]; exact s3
  · rw [say_64 (by omega)]; exact s4
  · rw [el]; omega
  · intro i hi
    rw [el] at hi
    rw [setR_ne (b := 203) (a := 201) (by omega), setR_ne (b := 203) (a := 204) (by omega), setR_same, setR_ne (b := 204) (a := 201) (by omega), setR_same]
    by_cases h : i = L.length
    · subst h
      rw [updf_same rfl, updf_same rfl, up2_same]
      have e : (L ++ [t])[L.length]'(by rw [el]; omega) = t := by simp
      rw [e]
      exact tk
    · have hi' : i < L.length := by omega
      rw [updf_ne (by omega), updf_ne (by omega), up2_out (by omega)]
      have e : (L ++ [t])[i]'(by rw [el]; omega) = L[i] := List.getElem_append_left hi'
      rw [e]
      exact s6 i hi'
  · rw [el]
    exact WFN_say (m := (L.length : Int)) (by omega) s7 h1 h2
  · intro i hi
    by_cases h : i = L.length
    · subst h
      rw [up2_same]
      exact ⟨s, rfl, hs⟩
    · rw [up2_out (by omega)]
      exact s8 i hi
