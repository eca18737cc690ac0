noncomputable def eA (N : Int → Int) (g h s : Int) : Int := @dite Int (∃ e, EndAt N g h s e) (Classical.propDecidable _) (fun h => Classical.choose h) (fun _ => 600)
theorem eA_eq {N : Int → Int} {g h s e : Int} (he : EndAt N g h s e) : eA N g h s = e := by
  have hx : ∃ e, EndAt N g h s e := ⟨e, he⟩
  unfold eA
  rw [dif_pos hx]
  exact EndAt_u (Classical.choose_spec hx) he
theorem End_ex {N : Int → Int} {g h s : Int} (hh : h ≤ 600) : ∃ e, EndAt N g h s e := by
  have key : ∀ (d : Nat) (x : Int), h ≤ x → x + d = 600 → (∀ j, h ≤ j → j < x → sumR N g h (j - h).toNat < s) → ∃ e, EndAt N g h s e := by
    intro d
    induction d with
    | zero =>
      intro x h1 h2 h3
      exact ⟨x, by omega, h3, fun h => by omega⟩
    | succ d ih =>
      intro x h1 h2 h3
      by_cases c : s ≤ sumR N g h (x - h).toNat
      · exact ⟨x, by omega, h3, fun _ => c⟩
      · refine ih (x + 1) (by omega) (by omega) (fun j h4 h5 => ?_)
        by_cases e : j = x
        · rw [e]; omega
        · exact h3 j h4 (by omega)
  exact key (600 - h).toNat h (by omega) (by omega) (fun j h1 h2 => by omega)
theorem eA_at {N : Int → Int} {g h s : Int} (hh : h ≤ 600) : EndAt N g h s (eA N g h s) := by
  obtain ⟨e, he⟩ := End_ex (N := N) (g := g) (s := s) hh
  rw [eA_eq he]; exact he
theorem eA_r {N : Int → Int} {g h s : Int} (hh : h ≤ 600) : h ≤ eA N g h s ∧ eA N g h s ≤ 600 := (eA_at hh).1
theorem eA_0 {N : Int → Int} {g h : Int} (hh : h ≤ 600) : eA N g h 0 = h := by
  refine eA_eq ⟨by omega, fun j h1 h2 => by omega, fun _ => ?_⟩
  have : (h - h).toNat = 0 := by omega
  rw [this]
  show (0 : Int) ≤ 0
  omega
theorem eA_step {N : Int → Int} {g h s : Int} (hh : h < 600) (hs : 1 ≤ s) : eA N g h s = ii (runA N g h < s) (eA N g (h + 1) (s - runA N g h)) (h + 1) := by
  have fr : ∀ k : Nat, sumR N g h (k + 1) = runA N g h + sumR N g (h + 1) k := fun k => by
    have := sumR_front (N := N) (g := g) (h := h + 1) k
    have e : h + 1 - 1 = h := by omega
    rw [e] at this
    exact this
  by_cases q : runA N g h < s
  · rw [ii_t q]
    have he := eA_at (N := N) (g := g) (h := h + 1) (s := s - runA N g h) (by omega)
    obtain ⟨e1, e2, e3⟩ := he
    refine eA_eq ⟨by omega, fun j h1 h2 => ?_, fun h6 => ?_⟩
    · by_cases e : j = h
      · have : (j - h).toNat = 0 := by omega
        rw [this]
        show (0 : Int) < s
        omega
      · have e5 : (j - h).toNat = (j - (h + 1)).toNat + 1 := by omega
        rw [e5, fr]
        have := e2 j (by omega) h2
        omega
    · have e5 : (eA N g (h + 1) (s - runA N g h) - h).toNat = (eA N g (h + 1) (s - runA N g h) - (h + 1)).toNat + 1 := by omega
      rw [e5, fr]
      have := e3 h6
      omega
  · rw [ii_f q]
    refine eA_eq ⟨by omega, fun j h1 h2 => ?_, fun h6 => ?_⟩
    · have : (j - h).toNat = 0 := by omega
      rw [this]
      show (0 : Int) < s
      omega
    · have e5 : (h + 1 - h).toNat = 0 + 1 := by omega
      rw [e5, fr]
      show s ≤ runA N g h + 0
      omega
def canW (N : Int → Int) (g h : Int) : Prop := N 4 ≤ fdA N (N (56 + g)) h ∨ N 4 ≤ fdA N (N (60 + g)) h
noncomputable def aT (N : Int → Int) (g i : Int) : Int := eA N g (N 102 + i + 1) (N (64 + g)) - N 102
noncomputable def fvK (N : Int → Int) (g K : Int) : Nat → Int → Int → Int
  | 0, _, _ => 0
  | f + 1, i, w => ii (K ≤ i) 0 (ii (someW N g (N 102 + i)) (fvK N g K f (aT N g i) 0) (min (ii (canW N g (N 102 + i)) (1 + fvK N g K f (aT N g i) 0) 1000) (ii (w + 1 < N 3) (fvK N g K f (i + 1) (w + 1)) 1000)))
noncomputable def Fa (N : Int → Int) (g K i w : Int) : Int := fvK N g K (K - i).toNat i w
theorem aT_r {N : Int → Int} {g i : Int} (hi : N 102 + i + 1 ≤ 600) : i + 1 ≤ aT N g i ∧ aT N g i ≤ 600 - N 102 := by
  have := eA_r (N := N) (g := g) (s := N (64 + g)) hi
  unfold aT
  omega
theorem fvK_fuel {N : Int → Int} {g K : Int} (hK : N 102 + K ≤ 600) (f : Nat) : ∀ (f' : Nat) (i w : Int), (K - i).toNat ≤ f → (K - i).toNat ≤ f' → fvK N g K f i w = fvK N g K f' i w := by
  induction f with
  | zero =>
    intro f' i w h1 h2
    cases f' with
    | zero => rfl
    | succ f' =>
      show (0 : Int) = ii _ _ _
      rw [ii_t (by omega)]
  | succ f ih =>
    intro f' i w h1 h2
    cases f' with
    | zero =>
      show ii _ _ _ = (0 : Int)
      rw [ii_t (by omega)]
    | succ f' =>
      by_cases c : K ≤ i
      · show ii _ _ _ = ii _ _ _
        rw [ii_t c, ii_t c]
      · have ha := aT_r (N := N) (g := g) (i := i) (by omega)
        show ii _ _ _ = ii _ _ _
        rw [ih f' (aT N g i) 0 (by omega) (by omega), ih f' (i + 1) (w + 1) (by omega) (by omega)]
theorem Fa_eq {N : Int → Int} {g K i w : Int} (hK : N 102 + K ≤ 600) (hi : i < K) : Fa N g K i w = ii (someW N g (N 102 + i)) (Fa N g K (aT N g i) 0) (min (ii (canW N g (N 102 + i)) (1 + Fa N g K (aT N g i) 0) 1000) (ii (w + 1 < N 3) (Fa N g K (i + 1) (w + 1)) 1000)) := by
  have ha := aT_r (N := N) (g := g) (i := i) (by omega)
  unfold Fa
  have e : (K - i).toNat = (K - i - 1).toNat + 1 := by omega
  rw [e]
  show ii _ _ _ = _
  rw [ii_f (by omega), fvK_fuel hK (K - i - 1).toNat (K - aT N g i).toNat _ _ (by omega) (by omega), fvK_fuel hK (K - i - 1).toNat (K - (i + 1)).toNat _ _ (by omega) (by omega)]
theorem Fa_end {N : Int → Int} {g K i w : Int} (hi : K ≤ i) : Fa N g K i w = 0 := by
  unfold Fa
  have e : (K - i).toNat = 0 := by omega
  rw [e]
  rfl
theorem fvK_r {N : Int → Int} {g K : Int} (f : Nat) : ∀ (i w : Int), fvK N g K f i w = 1000 ∨ (0 ≤ fvK N g K f i w ∧ fvK N g K f i w ≤ f ∧ fvK N g K f i w < 1000) := by
  induction f with
  | zero => intro i w; exact Or.inr ⟨by show (0 : Int) ≤ 0; omega, by show (0 : Int) ≤ _; omega, by show (0 : Int) < 1000; omega⟩
  | succ f ih =>
    intro i w
    have h1 := ih (aT N g i) 0
    have h2 := ih (i + 1) (w + 1)
    have e : fvK N g K (f + 1) i w = ii (K ≤ i) 0 (ii (someW N g (N 102 + i)) (fvK N g K f (aT N g i) 0) (min (ii (canW N g (N 102 + i)) (1 + fvK N g K f (aT N g i) 0) 1000) (ii (w + 1 < N 3) (fvK N g K f (i + 1) (w + 1)) 1000))) := rfl
    rw [e]
    unfold ii
    (repeat' split) <;> omega
theorem Fa_r {N : Int → Int} {g K i w : Int} : Fa N g K i w = 1000 ∨ (0 ≤ Fa N g K i w ∧ Fa N g K i w ≤ (K - i).toNat ∧ Fa N g K i w < 1000) := fvK_r _ _ _
noncomputable def wtA (N : Int → Int) (g K i w : Int) : Int := ii (w + 1 < N 3) (Fa N g K (i + 1) (w + 1)) 1000
def wkA (N : Int → Int) (g K i w : Int) : Prop := canW N g (N 102 + i) ∧ 1 + Fa N g K (aT N g i) 0 < wtA N g K i w
noncomputable def wkV (N : Int → Int) (g i : Int) : Int := 10 * (N 102 + i) + ii (N 4 ≤ fdA N (N (56 + g)) (N 102 + i)) 0 1
noncomputable def Pl (N : Int → Int) (g K : Int) : Nat → Int → Int → List Int
  | 0, _, _ => []
  | f + 1, i, w => ii (K ≤ i) [] (ii (someW N g (N 102 + i)) (Pl N g K f (aT N g i) 0) (ii (wkA N g K i w) (wkV N g i :: Pl N g K f (aT N g i) 0) (Pl N g K f (i + 1) (w + 1))))
noncomputable def Pa (N : Int → Int) (g K i w : Int) : List Int := Pl N g K (K - i).toNat i w
theorem Pl_fuel {N : Int → Int} {g K : Int} (hK : N 102 + K ≤ 600) (f : Nat) : ∀ (f' : Nat) (i w : Int), (K - i).toNat ≤ f → (K - i).toNat ≤ f' → Pl N g K f i w = Pl N g K f' i w := by
  induction f with
  | zero =>
    intro f' i w h1 h2
    cases f' with
    | zero => rfl
    | succ f' =>
      show [] = ii _ _ _
      rw [ii_t (by omega)]
  | succ f ih =>
    intro f' i w h1 h2
    cases f' with
    | zero =>
      show ii _ _ _ = []
      rw [ii_t (by omega)]
    | succ f' =>
      by_cases c : K ≤ i
      · show ii _ _ _ = ii _ _ _
        rw [ii_t c, ii_t c]
      · have ha := aT_r (N := N) (g := g) (i := i) (by omega)
        show ii _ _ _ = ii _ _ _
        rw [ih f' (aT N g i) 0 (by omega) (by omega), ih f' (i + 1) (w + 1) (by omega) (by omega)]
theorem Pa_eq {N : Int → Int} {g K i w : Int} (hK : N 102 + K ≤ 600) (hi : i < K) : Pa N g K i w = ii (someW N g (N 102 + i)) (Pa N g K (aT N g i) 0) (ii (wkA N g K i w) (wkV N g i :: Pa N g K (aT N g i) 0) (Pa N g K (i + 1) (w + 1))) := by
  have ha := aT_r (N := N) (g := g) (i := i) (by omega)
  unfold Pa
  have e : (K - i).toNat = (K - i - 1).toNat + 1 := by omega
  rw [e]
  show ii _ _ _ = _
  rw [ii_f (by omega), Pl_fuel hK (K - i - 1).toNat (K - aT N g i).toNat _ _ (by omega) (by omega), Pl_fuel hK (K - i - 1).toNat (K - (i + 1)).toNat _ _ (by omega) (by omega)]
theorem Pa_end {N : Int → Int} {g K i w : Int} (hi : K ≤ i) : Pa N g K i w = [] := by
  unfold Pa
  have e : (K - i).toNat = 0 := by omega
  rw [e]
  rfl
theorem Pl_len {N : Int → Int} {g K : Int} (f : Nat) : ∀ (i w : Int), (Pl N g K f i w).length ≤ f := by
  induction f with
  | zero => intro i w; exact Nat.le_refl 0
  | succ f ih =>
    intro i w
    have h1 := ih (aT N g i) 0
    have h2 := ih (i + 1) (w + 1)
    have e : Pl N g K (f + 1) i w = ii (K ≤ i) [] (ii (someW N g (N 102 + i)) (Pl N g K f (aT N g i) 0) (ii (wkA N g K i w) (wkV N g i :: Pl N g K f (aT N g i) 0) (Pl N g K f (i + 1) (w + 1)))) := rfl
    rw [e]
    unfold ii
    (repeat' split)
    · exact Nat.zero_le _
    · omega
    · show (Pl N g K f (aT N g i) 0).length + 1 ≤ _
      omega
    · omega
theorem Pa_F {N : Int → Int} {g K : Int} (hK : N 102 + K ≤ 600) (d : Nat) : ∀ (i w : Int), (K - i).toNat ≤ d → Fa N g K i w < 1000 → ((Pa N g K i w).length : Int) = Fa N g K i w := by
  induction d with
  | zero =>
    intro i w h1 h2
    rw [Pa_end (by omega), Fa_end (by omega)]; rfl
  | succ d ih =>
    intro i w h1 h2
    by_cases c : K ≤ i
    · rw [Pa_end c, Fa_end c]; rfl
    · have ha := aT_r (N := N) (g := g) (i := i) (by omega)
      have r1 := Fa_r (N := N) (g := g) (K := K) (i := aT N g i) (w := 0)
      have r2 := Fa_r (N := N) (g := g) (K := K) (i := i + 1) (w := w + 1)
      rw [Fa_eq hK (by omega)] at h2 ⊢
      rw [Pa_eq hK (by omega)]
      by_cases q1 : someW N g (N 102 + i)
      · rw [ii_t q1] at h2 ⊢
        rw [ii_t q1]
        exact ih _ _ (by omega) h2
      · rw [ii_f q1] at h2 ⊢
        rw [ii_f q1]
        by_cases q2 : wkA N g K i w
        · rw [ii_t q2]
          have q2' := q2.2
          unfold wtA at q2'
          rw [ii_t q2.1] at h2 ⊢
          have h3 : Fa N g K (aT N g i) 0 < 1000 := by
            by_cases q3 : w + 1 < N 3
            · rw [ii_t q3] at q2'; omega
            · rw [ii_f q3] at q2'; omega
          have h4 := ih (aT N g i) 0 (by omega) h3
          show (((Pa N g K (aT N g i) 0).length + 1 : Nat) : Int) = _
          omega
        · rw [ii_f q2]
          have e : min (ii (canW N g (N 102 + i)) (1 + Fa N g K (aT N g i) 0) 1000) (ii (w + 1 < N 3) (Fa N g K (i + 1) (w + 1)) 1000) = ii (w + 1 < N 3) (Fa N g K (i + 1) (w + 1)) 1000 := by
            by_cases q4 : canW N g (N 102 + i)
            · rw [ii_t q4]
              have : ¬ (1 + Fa N g K (aT N g i) 0 < wtA N g K i w) := fun h => q2 ⟨q4, h⟩
              unfold wtA at this
              omega
            · rw [ii_f q4]
              by_cases q3 : w + 1 < N 3
              · rw [ii_t q3]; omega
              · rw [ii_f q3]; omega
          rw [e] at h2 ⊢
          by_cases q3 : w + 1 < N 3
          · rw [ii_t q3] at h2 ⊢
            exact ih _ _ (by omega) h2
          · rw [ii_f q3] at h2
            omega
