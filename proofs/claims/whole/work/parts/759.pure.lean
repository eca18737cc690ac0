theorem bd2_assoc {β γ : Type} {o : Option (Int32 × mm)} {F : Int32 → mm → Option (β × mm)} {G : β → mm → Option γ} : bd2 (bd2 o F) G = bd2 o (fun a τ => bd2 (F a τ) G) := by
  cases o with
  | none => rfl
  | some r => rfl
theorem TK_stk {Q R : Nat → Int → Int} {c x : Int64} {st : Option Nat} {n : Int} (h : TK Q c st R x n) : ∃ k, k < 31 ∧ st = some k ∧ (k ≠ 0 ↔ R 64 7 = 2) := by
  rcases h.2.2 with ⟨z1, -, z2, -⟩ | ⟨z1, -, z2⟩ | ⟨z1, -, -, z2, -⟩ | ⟨z1, -, -, l, -, -, -, z2⟩ | ⟨z1, -, z2, -⟩
  · exact ⟨0, by omega, z2, by omega⟩
  · exact ⟨0, by omega, z2, by omega⟩
  · exact ⟨0, by omega, z2, by omega⟩
  · have := wid_r (l := l)
    exact ⟨wid l, by omega, z2, by omega⟩
  · exact ⟨0, by omega, z2, by omega⟩
theorem swm_n : ∀ k : Fin 31, (k.val < 2 ∨ 11 < k.val) → swm k.val ≠ 1 ∧ swm k.val ≠ 2 ∧ swm k.val ≠ 3 ∧ swm k.val ≠ 4 ∧ swm k.val ≠ 5 ∧ swm k.val ≠ 6 ∧ swm k.val ≠ 7 ∧ swm k.val ≠ 8 ∧ swm k.val ≠ 9 ∧ swm k.val ≠ 10 := by decide +kernel
theorem ofN_I (k : Nat) : Int32.ofNat k = I k := rfl
theorem ldS_k {α : Type} {k : Nat} {F : Int32 → Option α} (hk : k < 31) : ldS (Int32.ofNat k) F = F (swm k) := by
  unfold ldS
  rw [ofN_I, if_pos (inb_I (by omega) (by omega) (by omega)), I_tc (by omega) (by omega)]
  rfl
theorem LO_post {S S' : Nat → Nat × Nat} {Q : Nat → Int → Int} {w : Nat → Nat → Int64} {rf : Nat → Nat → Option Nat} {R : Nat → Int → Int} {v : Nat → Nat → Int64} {rm : Nat → Nat → Option Nat} {n : Int} {c m : Option (Int32 × mm)} {G G' : Int32 → mm → Option (Int32 × mm)} (h : LO S' rm n Q w rf R v c m) (g0 : ∀ τ, G 0 τ = some (0, τ)) (g1 : ∀ τ, G 1 τ = some (1, τ)) (g0' : ∀ τ, G' 0 τ = some (0, τ)) (g1' : ∀ τ, G' 1 τ = some (1, τ)) : LO S' rm n Q w rf R v (bd2 c G) (bd2 m G') := by
  obtain ⟨Q1, w1, rf1, R1, v1, a1, a2, a3, a4⟩ := h
  refine ⟨Q1, w1, rf1, R1, v1, a1, a2, a3, ?_⟩
  rcases a4 with ⟨b1, b2', b3⟩ | ⟨b1, b2', b3⟩
  · exact Or.inl ⟨by rw [b1, bd2_p, g1], by rw [b2', bd2_p, g1'], b3⟩
  · exact Or.inr ⟨by rw [b1, bd2_p, g0], by rw [b2', bd2_p, g0'], b3⟩
theorem L_line {S S' : Nat → Nat × Nat} {Q : Nat → Int → Int} {w : Nat → Nat → Int64} {rf : Nat → Nat → Option Nat} {R : Nat → Int → Int} {v : Nat → Nat → Int64} {rm : Nat → Nat → Option Nat} {n : Int} (hS : SCok S) (hS' : SMok S') (hr : RCok rf) (hr' : RMok rm) (sy : SYN Q w rf R v n 900) (dr : DRF Q w (v 72) (R 64 24) (R 67)) : (R 64 7 = 2 ∧ LO S' rm n Q w rf R v (fX5_readLine S (mk Q w rf) 103) (fX13_readLine S' (mk R v rm) 64)) ∨ (fX5_readLine S (mk Q w rf) 103 = some (0, mk (failQ Q 1) w rf) ∧ fX13_readLine S' (mk R v rm) 64 = some (0, mk (badR R 1) v rm)) := by
  obtain ⟨k, hk, hst, h2⟩ := TK_stk sy.2
  have h7r := (TK_k sy.2).1
  have iw : ∀ j : Nat, j < 29 → fX13_isWord S' (mk R v rm) 64 (I j) = some (b2 (k = j + 2)) := fun j hj => by
    rw [M_isWord sy.2 hj, hst]
    exact congrArg (fun x => some (b2 x)) (propext ⟨Option.some.inj, congrArg some⟩)
  have i0 : fX13_isWord S' (mk R v rm) 64 (0 : Int32) = some (b2 (k = 2)) := iw 0 (by omega)
  have i1 : fX13_isWord S' (mk R v rm) 64 (1 : Int32) = some (b2 (k = 3)) := iw 1 (by omega)
  have i2 : fX13_isWord S' (mk R v rm) 64 (2 : Int32) = some (b2 (k = 4)) := iw 2 (by omega)
  have i3 : fX13_isWord S' (mk R v rm) 64 (3 : Int32) = some (b2 (k = 5)) := iw 3 (by omega)
  have i4 : fX13_isWord S' (mk R v rm) 64 (4 : Int32) = some (b2 (k = 6)) := iw 4 (by omega)
  have i5 : fX13_isWord S' (mk R v rm) 64 (5 : Int32) = some (b2 (k = 7)) := iw 5 (by omega)
  have i6 : fX13_isWord S' (mk R v rm) 64 (6 : Int32) = some (b2 (k = 8)) := iw 6 (by omega)
  have i7 : fX13_isWord S' (mk R v rm) 64 (7 : Int32) = some (b2 (k = 9)) := iw 7 (by omega)
  have i8 : fX13_isWord S' (mk R v rm) 64 (8 : Int32) = some (b2 (k = 10)) := iw 8 (by omega)
  have i9 : fX13_isWord S' (mk R v rm) 64 (9 : Int32) = some (b2 (k = 11)) := iw 9 (by omega)
  unfold fX5_readLine
  rw [gC103_0 hr, gR_mk hst, ldS_k hk]
  unfold fX13_readLine
  have hc : k = 2 ∨ k = 3 ∨ k = 4 ∨ k = 5 ∨ k = 6 ∨ k = 7 ∨ k = 8 ∨ k = 9 ∨ k = 10 ∨ k = 11 ∨ (k < 2 ∨ 11 < k) := by omega
  rcases hc with hc | hc | hc | hc | hc | hc | hc | hc | hc | hc | hc
  · subst hc
    have h7 : R 64 7 = 2 := h2.1 (by omega)
    refine Or.inl ⟨h7, ?_⟩
    have L := L_person hS hS' hr hr' sy h7 dr
    rw [if_pos (by decide)]
    rw [i0, bd0_s, if_neg (by rw [b2_t rfl]; decide)]
    exact LO_post (S := S) L (fun _ => rfl) (fun _ => rfl) (fun _ => rfl) (fun _ => rfl)
  · subst hc
    have h7 : R 64 7 = 2 := h2.1 (by omega)
    refine Or.inl ⟨h7, ?_⟩
    have L := L_warm90 hS hS' hr hr' sy h7 dr
    rw [if_neg (by decide), if_pos (by decide)]
    rw [gC103_1 hr, gD85_4 hr]
    rw [i0, bd0_s, if_pos (b2_f (by decide)), i1, bd0_s, if_neg (by rw [b2_t rfl]; decide)]
    exact LO_post (S := S) L (fun _ => rfl) (fun _ => rfl) (fun _ => rfl) (fun _ => rfl)
  · subst hc
    have h7 : R 64 7 = 2 := h2.1 (by omega)
    refine Or.inl ⟨h7, ?_⟩
    have L := L_warm91 hS hS' hr hr' sy h7 dr
    rw [if_neg (by decide), if_neg (by decide), if_pos (by decide)]
    rw [gC103_1 hr, gD85_5 hr]
    rw [i0, bd0_s, if_pos (b2_f (by decide)), i1, bd0_s, if_pos (b2_f (by decide)), i2, bd0_s, if_neg (by rw [b2_t rfl]; decide)]
    exact LO_post (S := S) L (fun _ => rfl) (fun _ => rfl) (fun _ => rfl) (fun _ => rfl)
  · subst hc
    have h7 : R 64 7 = 2 := h2.1 (by omega)
    refine Or.inl ⟨h7, ?_⟩
    have L := L_glass hS hS' hr hr' sy h7 dr
    rw [if_neg (by decide), if_neg (by decide), if_neg (by decide), if_pos (by decide)]
    rw [i0, bd0_s, if_pos (b2_f (by decide)), i1, bd0_s, if_pos (b2_f (by decide)), i2, bd0_s, if_pos (b2_f (by decide)), i3, bd0_s, if_neg (by rw [b2_t rfl]; decide)]
    exact LO_post (S := S) L (fun _ => rfl) (fun _ => rfl) (fun _ => rfl) (fun _ => rfl)
  · subst hc
    have h7 : R 64 7 = 2 := h2.1 (by omega)
    refine Or.inl ⟨h7, ?_⟩
    have L := L_damp hS hS' hr hr' sy h7 dr
    rw [if_neg (by decide), if_neg (by decide), if_neg (by decide), if_neg (by decide), if_pos (by decide)]
    rw [i0, bd0_s, if_pos (b2_f (by decide)), i1, bd0_s, if_pos (b2_f (by decide)), i2, bd0_s, if_pos (b2_f (by decide)), i3, bd0_s, if_pos (b2_f (by decide)), i4, bd0_s, if_neg (by rw [b2_t rfl]; decide)]
    exact LO_post (S := S) L (fun _ => rfl) (fun _ => rfl) (fun _ => rfl) (fun _ => rfl)
  · subst hc
    have h7 : R 64 7 = 2 := h2.1 (by omega)
    refine Or.inl ⟨h7, ?_⟩
    have L := L_good hS hS' hr hr' sy h7 dr
    rw [if_neg (by decide), if_neg (by decide), if_neg (by decide), if_neg (by decide), if_neg (by decide), if_pos (by decide)]
    rw [i0, bd0_s, if_pos (b2_f (by decide)), i1, bd0_s, if_pos (b2_f (by decide)), i2, bd0_s, if_pos (b2_f (by decide)), i3, bd0_s, if_pos (b2_f (by decide)), i4, bd0_s, if_pos (b2_f (by decide)), i5, bd0_s, if_neg (by rw [b2_t rfl]; decide)]
    exact LO_post (S := S) L (fun _ => rfl) (fun _ => rfl) (fun _ => rfl) (fun _ => rfl)
  · subst hc
    have h7 : R 64 7 = 2 := h2.1 (by omega)
    refine Or.inl ⟨h7, ?_⟩
    have L := L_Grace hS hS' hr hr' sy h7 dr
    rw [if_neg (by decide), if_neg (by decide), if_neg (by decide), if_neg (by decide), if_neg (by decide), if_neg (by decide), if_pos (by decide)]
    rw [i0, bd0_s, if_pos (b2_f (by decide)), i1, bd0_s, if_pos (b2_f (by decide)), i2, bd0_s, if_pos (b2_f (by decide)), i3, bd0_s, if_pos (b2_f (by decide)), i4, bd0_s, if_pos (b2_f (by decide)), i5, bd0_s, if_pos (b2_f (by decide)), i6, bd0_s, if_neg (by rw [b2_t rfl]; decide)]
    refine (congrArg (LO S' rm n Q w rf R v _) ?_).mpr (LO_post (S := S) L (G := fun a τ => rZ a (some (a, τ))) (G' := fun a τ => if a = 0 then some ((0 : Int32), τ) else some ((1 : Int32), τ)) (fun _ => rfl) (fun _ => rfl) (fun _ => rfl) (fun _ => rfl))
    rw [bd2_assoc]
    refine congrArg (bd2 _) (funext fun a => funext fun τ => ?_)
    by_cases ha : a = 0
    · rw [if_pos ha, if_pos ha]; rfl
    · rw [if_neg ha, if_neg ha, bd2_assoc]
      refine congrArg (bd2 _) (funext fun a => funext fun τ => ?_)
      rw [bd2_assoc]
      rfl
  · subst hc
    have h7 : R 64 7 = 2 := h2.1 (by omega)
    refine Or.inl ⟨h7, ?_⟩
    have L := L_Wish hS hS' hr hr' sy h7 dr
    rw [if_neg (by decide), if_neg (by decide), if_neg (by decide), if_neg (by decide), if_neg (by decide), if_neg (by decide), if_neg (by decide), if_pos (by decide)]
    rw [i0, bd0_s, if_pos (b2_f (by decide)), i1, bd0_s, if_pos (b2_f (by decide)), i2, bd0_s, if_pos (b2_f (by decide)), i3, bd0_s, if_pos (b2_f (by decide)), i4, bd0_s, if_pos (b2_f (by decide)), i5, bd0_s, if_pos (b2_f (by decide)), i6, bd0_s, if_pos (b2_f (by decide)), i7, bd0_s, if_neg (by rw [b2_t rfl]; decide)]
    refine (congrArg (LO S' rm n Q w rf R v _) ?_).mpr (LO_post (S := S) L (G := fun a τ => rZ a (some (a, τ))) (G' := fun a τ => if a = 0 then some ((0 : Int32), τ) else some ((1 : Int32), τ)) (fun _ => rfl) (fun _ => rfl) (fun _ => rfl) (fun _ => rfl))
    rw [bd2_assoc]
    refine congrArg (bd2 _) (funext fun a => funext fun τ => ?_)
    by_cases ha : a = 0
    · rw [if_pos ha, if_pos ha]; rfl
    · rw [if_neg ha, if_neg ha, bd2_assoc]
      refine congrArg (bd2 _) (funext fun a => funext fun τ => ?_)
      rw [bd2_assoc]
      rfl
  · subst hc
    have h7 : R 64 7 = 2 := h2.1 (by omega)
    refine Or.inl ⟨h7, ?_⟩
    have L := L_Early hS hS' hr hr' sy h7 dr
    rw [if_neg (by decide), if_neg (by decide), if_neg (by decide), if_neg (by decide), if_neg (by decide), if_neg (by decide), if_neg (by decide), if_neg (by decide), if_pos (by decide)]
    rw [i0, bd0_s, if_pos (b2_f (by decide)), i1, bd0_s, if_pos (b2_f (by decide)), i2, bd0_s, if_pos (b2_f (by decide)), i3, bd0_s, if_pos (b2_f (by decide)), i4, bd0_s, if_pos (b2_f (by decide)), i5, bd0_s, if_pos (b2_f (by decide)), i6, bd0_s, if_pos (b2_f (by decide)), i7, bd0_s, if_pos (b2_f (by decide)), i8, bd0_s, if_neg (by rw [b2_t rfl]; decide)]
    exact LO_post (S := S) L (fun _ => rfl) (fun _ => rfl) (fun _ => rfl) (fun _ => rfl)
  · subst hc
    have h7 : R 64 7 = 2 := h2.1 (by omega)
    refine Or.inl ⟨h7, ?_⟩
    have L := L_Level hS hS' hr hr' sy h7 dr
    rw [if_neg (by decide), if_neg (by decide), if_neg (by decide), if_neg (by decide), if_neg (by decide), if_neg (by decide), if_neg (by decide), if_neg (by decide), if_neg (by decide), if_pos (by decide)]
    rw [i0, bd0_s, if_pos (b2_f (by decide)), i1, bd0_s, if_pos (b2_f (by decide)), i2, bd0_s, if_pos (b2_f (by decide)), i3, bd0_s, if_pos (b2_f (by decide)), i4, bd0_s, if_pos (b2_f (by decide)), i5, bd0_s, if_pos (b2_f (by decide)), i6, bd0_s, if_pos (b2_f (by decide)), i7, bd0_s, if_pos (b2_f (by decide)), i8, bd0_s, if_pos (b2_f (by decide)), i9, bd0_s, if_neg (by rw [b2_t rfl]; decide)]
    exact LO_post (S := S) L (fun _ => rfl) (fun _ => rfl) (fun _ => rfl) (fun _ => rfl)
  · obtain ⟨n1, n2, n3, n4, n5', n6, n7, n8, n9, n10⟩ := swm_n ⟨k, hk⟩ hc
    dsimp only at n1 n2 n3 n4 n5' n6 n7 n8 n9 n10
    rw [i0, bd0_s, if_pos (b2_f (by omega)), i1, bd0_s, if_pos (b2_f (by omega)), i2, bd0_s, if_pos (b2_f (by omega)), i3, bd0_s, if_pos (b2_f (by omega)), i4, bd0_s, if_pos (b2_f (by omega)), i5, bd0_s, if_pos (b2_f (by omega)), i6, bd0_s, if_pos (b2_f (by omega)), i7, bd0_s, if_pos (b2_f (by omega)), i8, bd0_s, if_pos (b2_f (by omega)), i9, bd0_s, if_pos (b2_f (by omega)), if_neg n1, if_neg n2, if_neg n3, if_neg n4, if_neg n5', if_neg n6, if_neg n7, if_neg n8, if_neg n9, if_neg n10, gC103_0 hr, show (1 : Int32) = I 1 from rfl, C_fails, bd2_p, M_bad (Or.inr rfl) h7r, bd2_p]
    exact Or.inr ⟨rfl, rfl⟩
