theorem lc_full {b : Int → Int} {p : Int} (L : Nat) : (lcK b p L = L ↔ ∀ j : Nat, j < L → isL (b (p + j))) ∧ (lcK b p L = 0 ↔ ∀ j : Nat, j < L → ¬ isL (b (p + j))) := by
  induction L with
  | zero => exact ⟨⟨fun _ j h => by omega, fun _ => rfl⟩, ⟨fun _ j h => by omega, fun _ => rfl⟩⟩
  | succ L ih =>
    have lr := lc_r (b := b) (p := p) L
    have e : lcK b p (L + 1) = ii (isL (b (p + L))) (lcK b p L + 1) (lcK b p L) := rfl
    by_cases q : isL (b (p + L))
    · rw [e, ii_t q]
      refine ⟨⟨fun h j hj => ?_, fun h => ?_⟩, ⟨fun h => by omega, fun h => absurd q (h L (by omega))⟩⟩
      · by_cases ej : j = L
        · rw [ej]; exact q
        · exact ih.1.1 (by omega) j (by omega)
      · have := ih.1.2 (fun j hj => h j (by omega))
        omega
    · rw [e, ii_f q]
      refine ⟨⟨fun h => by omega, fun h => absurd (h L (by omega)) q⟩, ⟨fun h j hj => ?_, fun h => ih.2.2 (fun j hj => h j (by omega))⟩⟩
      by_cases ej : j = L
      · rw [ej]; exact q
      · exact ih.2.1 h j (by omega)
theorem kd_eq {b : Int → Int} {p : Int} {L : Nat} (hL : 1 ≤ L) : kdC (lcK b p L) L = kdM b p L := by
  have lr := lc_r (b := b) (p := p) L
  obtain ⟨f1, f2⟩ := lc_full (b := b) (p := p) L
  have e0 : p + ((0 : Nat) : Int) = p := by omega
  unfold kdC kdM
  by_cases q1 : gdK b p L
  · rw [ii_t q1]
    by_cases q2 : isL (b p)
    · rw [ii_t q2]
      have g1 : lcK b p L = L := f1.2 (fun j hj => (q1 j hj).2 q2)
      rw [g1]
      by_cases q3 : (L : Int) ≤ 7
      · rw [ii_t (by omega), ii_t q3]
      · rw [ii_f (by omega), ii_f (by omega), ii_f q3]
    · rw [ii_f q2]
      have g1 : lcK b p L = 0 := f2.2 (fun j hj h => q2 ((q1 j hj).1 h))
      rw [g1]
      rw [ii_f (by omega)]
      by_cases q3 : (L : Int) ≤ 3
      · rw [ii_t (by omega), ii_t q3]
      · rw [ii_f (by omega), ii_f q3]
  · rw [ii_f q1]
    have n1 : ¬ (lcK b p L = L) := fun h => q1 (fun j hj => by
      have a1 := f1.1 h j hj
      have a2 := f1.1 h 0 (by omega)
      rw [e0] at a2
      exact ⟨fun _ => a2, fun _ => a1⟩)
    have n2 : ¬ (lcK b p L = 0) := fun h => q1 (fun j hj => by
      have a1 := f2.1 h j hj
      have a2 := f2.1 h 0 (by omega)
      rw [e0] at a2
      exact ⟨fun x => absurd x a1, fun x => absurd x a2⟩)
    rw [ii_f (by omega), ii_f (by omega)]
def nlK (b : Int → Int) (p : Int) : Nat → List Nat
  | 0 => []
  | k + 1 => nlK b p k ++ [(b (p + k) - 96).toNat]
theorem n5_app (l : List Nat) (d : Nat) : n5 (l ++ [d]) = 32 * n5 l + d := by
  unfold n5
  rw [List.foldl_append]
  rfl
theorem n27_app (l : List Nat) (d : Nat) : n27 (l ++ [d]) = 27 * n27 l + d := by
  unfold n27
  rw [List.foldl_append]
  rfl
theorem nl_len {b : Int → Int} {p : Int} (k : Nat) : (nlK b p k).length = k := by
  induction k with
  | zero => rfl
  | succ k ih => unfold nlK; rw [List.length_append, ih]; rfl
theorem nl_nm {b : Int → Int} {p : Int} {L : Nat} (h : ∀ j : Nat, j < L → isL (b (p + j))) (hL : 1 ≤ L ∧ L ≤ 7) : isNm (nlK b p L) := by
  refine ⟨?_, by rw [nl_len]; exact hL.1, by rw [nl_len]; exact hL.2⟩
  have key : ∀ k : Nat, k ≤ L → ∀ d ∈ nlK b p k, 1 ≤ d ∧ d ≤ 26 := by
    intro k
    induction k with
    | zero => intro _ d hd; exact absurd hd (by simp [nlK])
    | succ k ih =>
      intro hk d hd
      unfold nlK at hd
      rw [List.mem_append] at hd
      rcases hd with hd | hd
      · exact ih (by omega) d hd
      · rw [List.mem_singleton] at hd
        have := h k (by omega)
        unfold isL at this
        omega
  exact key L (Nat.le_refl L)
theorem n_bound {l : List Nat} (h : ∀ d ∈ l, 1 ≤ d ∧ d ≤ 26) : n5 l < 32 ^ l.length ∧ n27 l < 27 ^ l.length := by
  have key : ∀ (m : List Nat), (∀ d ∈ m, 1 ≤ d ∧ d ≤ 26) → n5 m.reverse < 32 ^ m.length ∧ n27 m.reverse < 27 ^ m.length := by
    intro m
    induction m with
    | nil => intro _; exact ⟨by decide, by decide⟩
    | cons d m ih =>
      intro hm
      obtain ⟨i1, i2⟩ := ih (fun x hx => hm x (List.mem_cons_of_mem _ hx))
      have hd := hm d (List.mem_cons_self)
      rw [List.reverse_cons, n5_app, n27_app, List.length_cons, Nat.pow_succ, Nat.pow_succ]
      omega
  have := key l.reverse (fun d hd => h d (List.mem_reverse.1 hd))
  rw [List.reverse_reverse, List.length_reverse] at this
  exact this
theorem n_le {l : List Nat} (h : isNm l) : n5 l < 34359738368 ∧ n27 l < 10460353203 := by
  obtain ⟨b1, b2⟩ := n_bound h.1
  have h5 : (32 : Nat) ^ l.length ≤ 32 ^ 7 := Nat.pow_le_pow_right (by omega) h.2.2
  have h27 : (27 : Nat) ^ l.length ≤ 27 ^ 7 := Nat.pow_le_pow_right (by omega) h.2.2
  omega
theorem i64_small {z : Int} (hz : 0 ≤ z ∧ z < 2147483648) : (I z).toInt64 = Int64.ofInt z := by
  rw [← Int64.toInt_inj, Int32.toInt_toInt64, I_toInt (by omega) (by omega), Int64.toInt_ofInt_of_le (by omega) (by omega)]
theorem i64_nat {m : Nat} : Int64.ofNat m = Int64.ofInt (m : Int) := rfl
theorem i64_or {x d : Nat} (hx : x < 1073741824) (hd : d < 32) : (Int64.ofNat x <<< ((I 5).toInt64 &&& 63)) ||| Int64.ofNat d = Int64.ofNat (32 * x + d) := by
  have e5 : ((I 5).toInt64 &&& 63) = 5 := by decide
  rw [e5, ← Int64.toBitVec_inj, Int64.toBitVec_or, Int64.toBitVec_shiftLeft]
  have e6 : (Int64.toBitVec 5).smod 64 = 5#64 := by decide
  have ex : (Int64.ofNat x).toBitVec = BitVec.ofNat 64 x := rfl
  have ed : (Int64.ofNat d).toBitVec = BitVec.ofNat 64 d := rfl
  have es : (Int64.ofNat (32 * x + d)).toBitVec = BitVec.ofNat 64 (32 * x + d) := rfl
  rw [ex, ed, es]
  apply BitVec.eq_of_toNat_eq
  rw [BitVec.toNat_or, BitVec.toNat_ofNat, BitVec.toNat_ofNat]
  have e7 : (BitVec.ofNat 64 x <<< (Int64.toBitVec 5).smod 64).toNat = 32 * x := by
    rw [e6]
    show (BitVec.ofNat 64 x <<< (5#64).toNat).toNat = _
    rw [BitVec.toNat_shiftLeft, BitVec.toNat_ofNat, Nat.shiftLeft_eq]
    have : (5#64).toNat = 5 := by decide
    rw [this, Nat.mod_eq_of_lt (by omega : x < 2 ^ 64)]
    rw [Nat.mod_eq_of_lt (by omega)]
    omega
  rw [e7, Nat.mod_eq_of_lt (by omega : d < 2 ^ 64), Nat.mod_eq_of_lt (by omega : 32 * x + d < 2 ^ 64)]
  have := Nat.shiftLeft_add_eq_or_of_lt (i := 5) (b := d) (by omega) x
  rw [Nat.shiftLeft_eq] at this
  have e8 : 32 * x = x * 2 ^ 5 := by omega
  rw [e8, this]
theorem code_eq {b : Int → Int} {p : Int} (k : Nat) (hk : k ≤ 7) (h : ∀ j : Nat, j < k → isL (b (p + j))) : coK b p k = Int64.ofNat (n5 (nlK b p k)) ∧ wrK b p k = Int64.ofNat (n27 (nlK b p k)) := by
  induction k with
  | zero => exact ⟨rfl, rfl⟩
  | succ k ih =>
    obtain ⟨i1, i2⟩ := ih (by omega) (fun j hj => h j (by omega))
    have hl := h k (by omega)
    have hall : ∀ d ∈ nlK b p k, 1 ≤ d ∧ d ≤ 26 := by
      by_cases k0 : k = 0
      · rw [k0]; intro d hd; exact absurd hd (by simp [nlK])
      · exact (nl_nm (fun j hj => h j (by omega)) (by omega : 1 ≤ k ∧ k ≤ 7)).1
    obtain ⟨b5, b27⟩ := n_bound hall
    rw [nl_len] at b5 b27
    have p5 : (32 : Nat) ^ k ≤ 32 ^ 6 := Nat.pow_le_pow_right (by omega) (by omega)
    have p27 : (27 : Nat) ^ k ≤ 27 ^ 6 := Nat.pow_le_pow_right (by omega) (by omega)
    have hl' := hl
    unfold isL at hl'
    have en : nlK b p (k + 1) = nlK b p k ++ [(b (p + k) - 96).toNat] := rfl
    refine ⟨?_, ?_⟩
    · have e : coK b p (k + 1) = ii (isL (b (p + k))) ((coK b p k <<< ((I 5).toInt64 &&& 63)) ||| (I (b (p + k) - 97 + 1)).toInt64) (coK b p k) := rfl
      rw [e, ii_t hl, i1, en, n5_app]
      have ed : (I (b (p + k) - 97 + 1)).toInt64 = Int64.ofNat ((b (p + k) - 96).toNat) := by
        rw [i64_small (by omega), i64_nat]
        congr 1
        omega
      rw [ed]
      exact i64_or (by omega) (by omega)
    · have e : wrK b p (k + 1) = ii ((k : Int) < 7) (27 * wrK b p k + (I (b (p + k))).toInt64 - 96) (wrK b p k) := rfl
      rw [e, ii_t (by omega), i2, en, n27_app, i64_small (by omega), i64_nat, i64_nat]
      have e1 : (27 : Int64) = Int64.ofInt 27 := rfl
      have e2 : (96 : Int64) = Int64.ofInt 96 := rfl
      rw [e1, e2, ← Int64.ofInt_mul, ← Int64.ofInt_add, ← Int64.ofInt_sub]
      congr 1
      omega
theorem num_eq {b : Int → Int} {p : Int} (k : Nat) (hk : k ≤ 3) (h : ∀ j : Nat, j < k → ¬ isL (b (p + j)) ∧ isD (b (p + j))) : ncK b p k = nrK b p k ∧ 0 ≤ nrK b p k ∧ nrK b p k < 10 ^ k := by
  induction k with
  | zero => exact ⟨rfl, by show (0 : Int) ≤ 0; omega, by show (0 : Int) < 10 ^ 0; decide⟩
  | succ k ih =>
    obtain ⟨i1, i2, i3⟩ := ih (by omega) (fun j hj => h j (by omega))
    obtain ⟨h1, h2⟩ := h k (by omega)
    unfold isD at h2
    have e1 : ncK b p (k + 1) = ii (isL (b (p + k))) (ncK b p k) (ncK b p k * 10 + b (p + k) - 48) := rfl
    have e2 : nrK b p (k + 1) = ii ((k : Int) < 3) (10 * nrK b p k + b (p + k) - 48) (nrK b p k) := rfl
    rw [e1, e2, ii_f h1, ii_t (by omega), i1]
    have e3 : (10 : Int) ^ (k + 1) = 10 ^ k * 10 := Int.pow_succ 10 k
    rw [e3]
    omega
theorem n5_inj : ∀ (l l' : List Nat), (∀ d ∈ l, 1 ≤ d ∧ d ≤ 26) → (∀ d ∈ l', 1 ≤ d ∧ d ≤ 26) → n5 l = n5 l' → l = l' := by
  have key : ∀ (m m' : List Nat), (∀ d ∈ m, 1 ≤ d ∧ d ≤ 26) → (∀ d ∈ m', 1 ≤ d ∧ d ≤ 26) → n5 m.reverse = n5 m'.reverse → m = m' := by
    intro m
    induction m with
    | nil =>
      intro m' _ h2 h3
      cases m' with
      | nil => rfl
      | cons d m' =>
        have hd := h2 d (List.mem_cons_self)
        rw [List.reverse_cons, n5_app] at h3
        have : n5 ([] : List Nat).reverse = 0 := rfl
        omega
    | cons d m ih =>
      intro m' h1 h2 h3
      have hd := h1 d (List.mem_cons_self)
      rw [List.reverse_cons, n5_app] at h3
      cases m' with
      | nil =>
        have : n5 ([] : List Nat).reverse = 0 := rfl
        omega
      | cons d' m' =>
        have hd' := h2 d' (List.mem_cons_self)
        rw [List.reverse_cons, n5_app] at h3
        have e1 : d = d' := by omega
        have e2 : n5 m.reverse = n5 m'.reverse := by omega
        rw [e1, ih m' (fun x hx => h1 x (List.mem_cons_of_mem _ hx)) (fun x hx => h2 x (List.mem_cons_of_mem _ hx)) e2]
  intro l l' h1 h2 h3
  have := key l.reverse l'.reverse (fun d hd => h1 d (List.mem_reverse.1 hd)) (fun d hd => h2 d (List.mem_reverse.1 hd)) (by rw [List.reverse_reverse, List.reverse_reverse]; exact h3)
  have := congrArg List.reverse this
  rwa [List.reverse_reverse, List.reverse_reverse] at this
theorem n27_inj : ∀ (l l' : List Nat), (∀ d ∈ l, 1 ≤ d ∧ d ≤ 26) → (∀ d ∈ l', 1 ≤ d ∧ d ≤ 26) → n27 l = n27 l' → l = l' := by
  have key : ∀ (m m' : List Nat), (∀ d ∈ m, 1 ≤ d ∧ d ≤ 26) → (∀ d ∈ m', 1 ≤ d ∧ d ≤ 26) → n27 m.reverse = n27 m'.reverse → m = m' := by
    intro m
    induction m with
    | nil =>
      intro m' _ h2 h3
      cases m' with
      | nil => rfl
      | cons d m' =>
        have hd := h2 d (List.mem_cons_self)
        rw [List.reverse_cons, n27_app] at h3
        have : n27 ([] : List Nat).reverse = 0 := rfl
        omega
    | cons d m ih =>
      intro m' h1 h2 h3
      have hd := h1 d (List.mem_cons_self)
      rw [List.reverse_cons, n27_app] at h3
      cases m' with
      | nil =>
        have : n27 ([] : List Nat).reverse = 0 := rfl
        omega
      | cons d' m' =>
        have hd' := h2 d' (List.mem_cons_self)
        rw [List.reverse_cons, n27_app] at h3
        have e1 : d = d' := by omega
        have e2 : n27 m.reverse = n27 m'.reverse := by omega
        rw [e1, ih m' (fun x hx => h1 x (List.mem_cons_of_mem _ hx)) (fun x hx => h2 x (List.mem_cons_of_mem _ hx)) e2]
  intro l l' h1 h2 h3
  have := key l.reverse l'.reverse (fun d hd => h1 d (List.mem_reverse.1 hd)) (fun d hd => h2 d (List.mem_reverse.1 hd)) (by rw [List.reverse_reverse, List.reverse_reverse]; exact h3)
  have := congrArg List.reverse this
  rwa [List.reverse_reverse, List.reverse_reverse] at this
theorem i64_inj {a b : Nat} (ha : a < 9223372036854775808) (hb : b < 9223372036854775808) : Int64.ofNat a = Int64.ofNat b ↔ a = b := by
  constructor
  · intro h
    have h2 := congrArg Int64.toInt h
    rw [i64_nat, i64_nat, Int64.toInt_ofInt_of_le (by omega) (by omega), Int64.toInt_ofInt_of_le (by omega) (by omega)] at h2
    omega
  · intro h; rw [h]
theorem nm_eq2 {l l' : List Nat} (h : isNm l) (h' : isNm l') : (Int64.ofNat (n5 l) = Int64.ofNat (n5 l') ↔ l = l') ∧ (Int64.ofNat (n27 l) = Int64.ofNat (n27 l') ↔ l = l') := by
  have a := n_le h
  have a' := n_le h'
  rw [i64_inj (by omega) (by omega), i64_inj (by omega) (by omega)]
  exact ⟨⟨n5_inj l l' h.1 h'.1, fun e => by rw [e]⟩, ⟨n27_inj l l' h.1 h'.1, fun e => by rw [e]⟩⟩
