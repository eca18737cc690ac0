/-! banns of the class, in the words of the pure rows -/
theorem C_endOf {S : Nat → Nat × Nat} {Q : Nat → Int → Int} {w : Nat → Nat → Int64} {rf : Nat → Nat → Option Nat} {N : Int → Int} {g : Int} (hS : SCok S) (hr : RCok rf) (wf : WFP N) (wl : WFL N) (cp : CP 67 Q N) (cl : CL 104 Q N) (hg : 0 ≤ g ∧ g < N 1) : ∃ e Q1, EndAt N g (N 102) (N (125 + g)) e ∧ (∀ a, a < 186 ∨ 188 < a → Q1 a = Q a) ∧ fX12_endOf S (mk Q w rf) 64 (I g) = some (I (ii (e = 600) (-1) e), mk Q1 w rf) := by
  obtain ⟨Q1, l1, l2, l3⟩ := C_look (S := S) (w := w) hS hr wf wl cp cl hg
  have cl1 : CL 104 Q1 N := CL_q cl (fun a h1 h2 => l3 a (by omega))
  obtain ⟨e, l4, l5⟩ := C_endNow (S := S) (w := w) hS hr wf wl cl1 l2 hg
  have er := l5.1
  have hb := wl.1
  refine ⟨e, Q1, l5, l3, ?_⟩
  unfold fX12_endOf fX12_endOf_b28
  rw [gC64_7 hr, l1, bd0_s, gC64_7 hr, l4, bd0_s]
  rw [show (600 : Int32) = I 600 from rfl]
  by_cases h6 : e = 600
  · rw [ii_t h6, if_pos (by rw [I_le (by omega) (by omega)]; omega)]
    rfl
  · rw [ii_f h6, if_neg (by rw [I_le (by omega) (by omega)]; omega)]
theorem I_nn {z : Int} (h : 0 ≤ z) : I z = nI z.toNat := by
  show Int32.ofInt z = Int32.ofInt (z.toNat : Int)
  rw [Int.toNat_of_nonneg h]
def inB (L : List Int) : Prop := ∀ x ∈ L, 0 ≤ x ∧ x < 256
theorem inB.app {L M : List Int} (h : inB L) (h2 : inB M) : inB (L ++ M) := fun x hx => (List.mem_append.mp hx).elim (h x) (h2 x)
theorem inB_lt {l : List Nat} (h : ∀ d ∈ l, d ≤ 26) : inB (lt96 l) := by
  intro x hx
  unfold lt96 at hx
  obtain ⟨d, hd, rfl⟩ := List.mem_map.mp hx
  have := h d hd
  omega
theorem inB_s : ∀ i, i < 4 → inB (sLt i) := by
  intro i hi
  have h : i = 0 ∨ i = 1 ∨ i = 2 ∨ i = 3 := by omega
  unfold inB
  rcases h with rfl | rfl | rfl | rfl <;> decide
theorem inB_digs : ∀ k n, inB (digs k n)
  | 0, n => fun x hx => by simp [digs] at hx
  | k + 1, n => by
    unfold digs
    split
    · intro x hx
      rw [List.mem_singleton] at hx
      omega
    · refine (inB_digs k (n / 10)).app (fun x hx => ?_)
      rw [List.mem_singleton] at hx
      have : n % 10 < 10 := Nat.mod_lt _ (by decide)
      omega
theorem inB_at {L : List Int} (h : inB L) : ∀ j, j < L.length → 0 ≤ L.getD j 0 ∧ L.getD j 0 < 256 := by
  intro j hj
  rw [List.getD_eq_getElem?_getD, List.getElem?_eq_getElem hj]
  exact h _ (List.getElem_mem hj)
theorem tm_ok {S : Nat → Nat × Nat} {Q : Nat → Int → Int} {w : Nat → Nat → Int64} {rf : Nat → Nat → Option Nat} {R : Nat → Int → Int} {v : Nat → Nat → Int64} {g : Int} {T : List Int} (hS : SCok S) (hr : RCok rf) (inv : INV Q w rf R v) (hin : 0 ≤ g ∧ g < R 66 1) (hT : termT (R 66) g T) : ∃ Q1, (∀ a, a < 186 ∨ 188 < a → Q1 a = Q a) ∧ TmOK S (mk Q w rf) (I g) (mk Q1 w rf) T ∧ T.length ≤ 9 ∧ inB T := by
  obtain ⟨ta, ⟨wf, cp, nm⟩, ⟨li, cl⟩, -⟩ := inv
  have wl1 := li.1
  have c1 := C_isLapsed (S := S) (w := w) (rf := rf) (g := g) cl
  rcases hT with ⟨h1, rfl⟩ | ⟨h1, e, he, h2⟩
  · rw [b2_t h1] at c1
    exact ⟨Q, fun _ _ => rfl, Or.inl ⟨c1, rfl, rfl⟩, by decide, inB_s 1 (by decide)⟩
  · rw [b2_f h1] at c1
    obtain ⟨e', Q1, he', l3, ce⟩ := C_endOf (S := S) (w := w) hS hr wf wl1 cp cl hin
    have ee := EndAt_u he he'
    subst ee
    have er := he.1
    have hb := wl1.1
    refine ⟨Q1, l3, ?_⟩
    have h102 : Q1 104 1 = R 66 102 := by
      rw [l3 104 (by omega)]
      exact cl.1.1
    rcases h2 with ⟨h6, rfl⟩ | ⟨h6, rfl⟩
    · rw [ii_t h6] at ce
      exact ⟨Or.inr ⟨c1, _, ce, rfC64_16 hr, rfC64_4 hr, Or.inl ⟨rfl, rfl⟩⟩, by decide, inB_s 2 (by decide)⟩
    · rw [ii_f h6] at ce
      have hd := digs_len 3 (e - R 66 102).toNat
      refine ⟨Or.inr ⟨c1, _, ce, rfC64_16 hr, rfC64_4 hr, Or.inr ⟨?_, (e - R 66 102).toNat, by omega, ?_, rfl⟩⟩, ?_, (inB_s 3 (by decide)).app (inB_digs _ _)⟩
      · rw [show (-1 : Int32) = I (-1) from rfl, I_eq (by omega) (by omega)]
        omega
      · show I e - I (Q1 104 1) = _
        rw [h102, I_sub, I_nn (by omega)]
      · show (sLt 3 ++ digs 3 (e - R 66 102).toNat).length ≤ 9
        rw [List.length_append]
        show 5 + _ ≤ 9
        omega
theorem ref_bannsNo {S' : Nat → Nat × Nat} {R : Nat → Int → Int} {v : Nat → Nat → Int64} {rm : Nat → Nat → Option Nat} {g : Int} (hS' : SMok S') (hr' : RMok rm) (wf : WFP (R 66)) (hg : -2147483648 ≤ g ∧ g < 2147483648) (hin : ¬ (0 ≤ g ∧ g < R 66 1)) : fX13_banns S' (mk R v rm) 64 (I g) = some (I (-1), mk (th0 R) v rm) := by
  have s1 := M_isGlass (S := S') (R := th0 R) (w := v) (rf := rm) (p := g) hS' hr' (by rw [th0_ne (by decide)]; exact wf) hg
  rw [th0_ne (by decide), b2_f hin] at s1
  unfold fX13_banns
  rw [th0_I, s1]
  rw [bd0_s, if_neg (show ¬ ¬ (0 : Int32) = 0 by decide)]
  rfl
theorem txt_s {l1 l2 : List Nat} {T : List Int} : txt l1 l2 T = lt96 l1 ++ sLt 0 ++ lt96 l2 ++ T := by
  unfold txt
  rw [show sLt 0 = [32] ++ lt96 (wl 18) ++ [32] from rfl]
  simp only [List.append_assoc]
