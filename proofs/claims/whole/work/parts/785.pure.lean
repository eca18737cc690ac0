theorem n5_at : ∀ (s : Nat) (l : List Nat), (∀ d ∈ l, d ≤ 26) → n5 l / 32 ^ s % 32 = l.reverse.getD s 0 := by
  intro s
  induction s with
  | zero =>
    intro l hl
    rcases List.eq_nil_or_concat l with rfl | ⟨l', d, rfl⟩
    · rfl
    · rw [List.concat_eq_append] at hl ⊢
      have := hl d (by simp)
      rw [n5_app, List.reverse_append]
      simp
      omega
  | succ s ih =>
    intro l hl
    rcases List.eq_nil_or_concat l with rfl | ⟨l', d, rfl⟩
    · simp [n5]
    · rw [List.concat_eq_append] at hl ⊢
      have h1 := hl d (by simp)
      have h2 := ih l' (fun x hx => hl x (List.mem_append_left _ hx))
      rw [n5_app, List.reverse_append, Nat.pow_succ, Nat.mul_comm (32 ^ s) 32, ← Nat.div_div_eq_div_mul, show (32 * n5 l' + d) / 32 = n5 l' by omega, h2]
      rfl
theorem n5_ub : ∀ l : List Nat, (∀ d ∈ l, d ≤ 26) → ∀ a, l.foldl (fun s d => 32 * s + d) a + 1 ≤ (a + 1) * 32 ^ l.length
  | [], _, a => by simp
  | d :: l, h, a => by
    have h1 := n5_ub l (fun x hx => h x (List.mem_cons_of_mem _ hx)) (32 * a + d)
    have h2 := h d List.mem_cons_self
    rw [List.foldl_cons, List.length_cons, Nat.pow_succ]
    refine Nat.le_trans h1 ?_
    rw [Nat.mul_comm (32 ^ l.length) 32, ← Nat.mul_assoc]
    exact Nat.mul_le_mul_right _ (by omega)
theorem n5_up {l : List Nat} (h : ∀ d ∈ l, d ≤ 26) (hl : l.length ≤ 7) : n5 l < 34359738368 := by
  have h1 := n5_ub l h 0
  have h2 : 32 ^ l.length ≤ 32 ^ 7 := Nat.pow_le_pow_right (by decide) hl
  unfold n5
  have h3 : (32 : Nat) ^ 7 = 34359738368 := by decide
  omega
