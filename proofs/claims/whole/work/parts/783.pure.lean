def t0R (R : Nat → Int → Int) : Nat → Int → Int := setR (th0 R) 64 (updf (th0 R 64) 32 0)
theorem t0R_n {R : Nat → Int → Int} : t0R R 64 32 = 0 := by
  unfold t0R
  rw [setR_same, updf_same rfl]
theorem t0R_ne {R : Nat → Int → Int} {a : Nat} (h : a ≠ 64) : t0R R a = R a := by
  unfold t0R th0
  rw [setR_ne h, setR_ne h]
theorem wrs_ne : ∀ (l : List Int) {R : Nat → Int → Int} {a : Nat}, a ≠ 64 → a ≠ 78 → wrs R l a = R a
  | [], R, a, _, _ => rfl
  | x :: l, R, a, h, h2 => (wrs_ne l (R := wr R x) h h2).trans (wr_ne h h2)
theorem wrs_64 : ∀ (l : List Int) {R : Nat → Int → Int} {j : Int}, j ≠ 32 → wrs R l 64 j = R 64 j
  | [], R, j, _ => rfl
  | x :: l, R, j, h => (wrs_64 l (R := wr R x) h).trans (wr_64 h)
theorem wrs_lo : ∀ (l : List Int) {R : Nat → Int → Int} {i : Int}, i < R 64 32 → wrs R l 78 i = R 78 i
  | [], R, i, _ => rfl
  | x :: l, R, i, h => by
    show wrs (wr R x) l 78 i = _
    rw [wrs_lo l (R := wr R x) (by rw [wr_n]; omega), wr_78, updf_ne (by omega)]
theorem wrs_at : ∀ (l : List Int) {R : Nat → Int → Int} (i : Nat), i < l.length → wrs R l 78 (R 64 32 + i) = l.getD i 0
  | [], R, i, h => absurd h (by simp)
  | x :: l, R, 0, h => by
    show wrs (wr R x) l 78 (R 64 32 + (0 : Nat)) = _
    rw [wrs_lo l (by rw [wr_n]; omega), wr_78, updf_same (by omega)]
    rfl
  | x :: l, R, i + 1, h => by
    have h1 := wrs_at l (R := wr R x) i (by simpa using h)
    rw [wr_n] at h1
    show wrs (wr R x) l 78 (R 64 32 + ((i + 1 : Nat) : Int)) = _
    rw [show R 64 32 + ((i + 1 : Nat) : Int) = R 64 32 + 1 + (i : Int) by omega, h1]
    rfl
theorem wrs_cat {R : Nat → Int → Int} {l l' : List Int} : wrs (wrs R l) l' = wrs R (l ++ l') := by
  unfold wrs
  rw [List.foldl_append]
theorem wr_wrs {R : Nat → Int → Int} {x : Int} : wr R x = wrs R [x] := rfl
/-- a list of bytes as the text -/
def txT (l : List Int) : Nat × (Int → Int) := (l.length, fun z => l.getD z.toNat 0)
theorem txT_R {R : Nat → Int → Int} {l : List Int} (h0 : R 64 32 = 0) (hl : l.length ≤ 64) : texR (txT l) (wrs R l 64 32) (wrs R l 78) := by
  have h1 := wrs_n l (R := R)
  refine ⟨by rw [h1, h0]; simp [txT], by rw [h1, h0]; omega, fun i hi hi2 => ?_⟩
  rw [h1, h0] at hi2
  have h2 := wrs_at l (R := R) i.toNat (by omega)
  rw [h0, show (0 : Int) + (i.toNat : Int) = i by omega] at h2
  exact h2
theorem INV_wrs {Q : Nat → Int → Int} {w : Nat → Nat → Int64} {rf : Nat → Nat → Option Nat} {R : Nat → Int → Int} {v : Nat → Nat → Int64} {l : List Int} (inv : INV Q w rf R v) : INV Q w rf (wrs (t0R R) l) v :=
  INV_q inv (fun a h => rfl) rfl rfl (fun a h => by
    have h1 : a ≠ 64 ∧ a ≠ 78 := by unfold KM at h; omega
    rw [wrs_ne l h1.1 h1.2, t0R_ne h1.1]) (fun j h => by
    have h1 : j ≠ 32 ∧ j ≠ 0 := by unfold K64 at h; omega
    rw [wrs_64 l h1.1]
    unfold t0R th0
    rw [setR_same, updf_ne h1.1, setR_same, updf_ne h1.2])
theorem sp_for {S : Nat → Nat × Nat} {σ : mm} : fX13_spelt S σ 102 111 114 0 0 0 = some (Int64.ofNat (n27 [6, 15, 18])) := by rfl
theorem sp_no {S : Nat → Nat × Nat} {σ : mm} : fX13_spelt S σ 110 111 0 0 0 0 = some (Int64.ofNat (n27 [14, 15])) := by rfl
theorem sp_more {S : Nat → Nat × Nat} {σ : mm} : fX13_spelt S σ 109 111 114 101 0 0 = some (Int64.ofNat (n27 [13, 15, 18, 5])) := by rfl
