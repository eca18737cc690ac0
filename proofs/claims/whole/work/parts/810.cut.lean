/-! the StringBuilder (ids 209, 210) is cut out of the class's region -/
def cutS (S : Nat → Nat × Nat) : Nat → Nat × Nat := fun k => if k = 209 then (99, 0) else if k = 210 then (99, 0) else S k
def cutL (Γ : ly) : ly := (Γ.1, cutS Γ.2)
def cutO (G : gg) : Nat → Prop := fun q => q ≠ G.2.1 209 ∧ q ≠ G.2.1 210
def tyb (Γ : ly) (e : Nat × Nat) (b : Nat) : Bool := if e.1 = 0 then decide (64 ≤ b) && decide (b < Γ.1) && decide (Γ.2 b = (0, e.2)) else if e.1 = 100 then decide (b < 31) else if e.1 = 101 then true else decide (64 ≤ b) && decide (b < Γ.1) && decide ((Γ.2 b).1 = e.1)
theorem tyb_ok {Γ : ly} {e : Nat × Nat} {b : Nat} (h : tyb Γ e b = true) : tyOK Γ e b := by
  obtain ⟨e1, e2⟩ := e
  unfold tyb at h
  unfold tyOK
  dsimp only at h ⊢
  split
  · simpa [and_assoc] using h
  · simpa using h
  · trivial
  · rename_i h0 h1 h2
    rw [if_neg (fun q => h0 q), if_neg (fun q => h1 q), if_neg (fun q => h2 q)] at h
    simpa [and_assoc] using h
def wtb1 (Γ : ly) (σ : mm) (k : Nat) : Bool := (if (Γ.2 k).1 = 0 then (List.range (c_n (Γ.2 k).2)).all (fun j => if c_t (Γ.2 k).2 j = 2 then (match σ.2.2 k j with | none => true | some b => tyb Γ (c_r (Γ.2 k).2 j) b) else true) else true) && (if 5 ≤ (Γ.2 k).1 ∧ (Γ.2 k).1 ≤ 8 then (List.range (Γ.2 k).2).all (fun j => match σ.2.2 k j with | none => true | some b => tyb Γ (a_r (Γ.2 k).1) b) else true)
def wtb (Γ : ly) (σ : mm) : Bool := (List.range (Γ.1 - 64)).all (fun k => wtb1 Γ σ (64 + k))
theorem wtb_ok {Γ : ly} {σ : mm} (h : wtb Γ σ = true) : wtp Γ σ := by
  intro k hk hk2
  have h1 := List.all_eq_true.1 h (k - 64) (List.mem_range.2 (by omega))
  rw [show 64 + (k - 64) = k by omega] at h1
  unfold wtb1 at h1
  rw [Bool.and_eq_true] at h1
  refine ⟨fun h0 j hj ht b hb => ?_, fun h5 h8 j hj b hb => ?_⟩
  · have h2 := h1.1
    rw [if_pos h0] at h2
    have h3 := List.all_eq_true.1 h2 j (List.mem_range.2 hj)
    rw [if_pos ht, hb] at h3
    exact tyb_ok h3
  · have h2 := h1.2
    rw [if_pos ⟨h5, h8⟩] at h2
    have h3 := List.all_eq_true.1 h2 j (List.mem_range.2 hj)
    rw [hb] at h3
    exact tyb_ok h3
theorem cutS_ne {S : Nat → Nat × Nat} {k : Nat} (h : (cutS S k).1 ≠ 99) : k ≠ 209 ∧ k ≠ 210 ∧ cutS S k = S k := by
  unfold cutS at h ⊢
  by_cases h1 : k = 209
  · rw [if_pos h1] at h
    exact absurd rfl h
  · rw [if_neg h1] at h ⊢
    by_cases h2 : k = 210
    · rw [if_pos h2] at h
      exact absurd rfl h
    · rw [if_neg h2]
      exact ⟨h1, h2, rfl⟩
theorem Rep.cut {G : gg} {Γ : ly} {σ : mm} {H : Heap} (Rp : Rep G Γ σ H) (hf : G.1.2.2 = false) (hA : ∀ k, G.2.1 (64 + k) = G.1.1 + k) (hw : wtp (cutL Γ) σ) : Rep (setO G (cutO G)) (cutL Γ) σ H := by
  refine ⟨⟨fun q => absurd (hf.symm.trans q) (by decide), Rp.1.2.1, fun k h1 h2 h3 => ?_, fun q => absurd (hf.symm.trans q) (by decide)⟩, Rp.2.1, hw, fun k e h1 h2 h3 => ?_⟩
  · obtain ⟨a1, a2, -⟩ := cutS_ne (S := Γ.2) h3
    exact ⟨fun q => a1 (ad_inj hA h1 (by decide) q), fun q => a2 (ad_inj hA h1 (by decide) q)⟩
  · have h9 : ((cutL Γ).2 k).1 ≠ 99 := fun q => by
      unfold h_cell at h3
      rw [q] at h3
      cases h3
    obtain ⟨-, -, a3⟩ := cutS_ne (S := Γ.2) h9
    have h4 : h_cell G (Γ.2 k) σ k = some e := by rw [← a3]; exact h3
    exact Rp.2.2.2 k e h1 h2 h4
/-- the StringBuilder as the constructor leaves it -/
def ckB (Γ : ly) (σ : mm) : Bool := decide (Γ.1 = 271) && decide (Γ.2 209 = (0, 0)) && decide (Γ.2 210 = (2, 16)) && decide (σ.2.2 209 0 = some 210) && decide (σ.1 209 1 = 0) && decide (σ.1 209 2 = 0) && decide (σ.1 209 3 = 0) && decide (σ.2.2 64 16 = some 209)
def okK (o : Option (ly × mm)) : Bool := match o with
  | none => false
  | some r => chkC (cutL r.1) r.2 && wtb (cutL r.1) r.2 && ckB r.1 r.2
set_option maxRecDepth 100000 in
theorem start_K : okK (fX12_init (grow L0 (0, 11)) (zc S0 64) 64) = true := by decide +kernel
