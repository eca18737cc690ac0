/-! the law from its entry to its end, but for the two cases of the StringBuilder -/
theorem okK_some {o : Option (ly × mm)} (h : okK o = true) : ∃ Γ σ, o = some (Γ, σ) ∧ chkC (cutL Γ) σ = true ∧ wtb (cutL Γ) σ = true ∧ ckB Γ σ = true := by
  cases o with
  | none => cases h
  | some r =>
    obtain ⟨Γ, σ⟩ := r
    have h1 : (chkC (cutL Γ) σ && wtb (cutL Γ) σ && ckB Γ σ) = true := h
    rw [Bool.and_eq_true, Bool.and_eq_true] at h1
    exact ⟨Γ, σ, rfl, h1.1.1, h1.1.2, h1.2⟩
theorem okM_some {o : Option (ly × mm)} (h : okM o = true) : ∃ Γ σ, o = some (Γ, σ) ∧ chkM Γ σ = true := by
  cases o with
  | none => cases h
  | some r => exact ⟨r.1, r.2, rfl, h⟩
theorem cut_ty {Γ : ly} (h : tyOK Γ (0, 11) 64) : tyOK (cutL Γ) (0, 11) 64 := h
theorem whole_of {p : Program} {e : Env} {s : State} {m : MethodId} {below : List Frame} {meth : Method} {c : Code} (l : Launch) (hl : l.stackTraces = false) {b L : Nat} {xs : Nat → Int32} (hL : L ≤ 3072) (C0 : lw_At p s m meth c b L xs)
    (h31 : ∀ (GC GM : gg) (cJ : ClassId) (qo : Nat) (ΓC ΓM : ly), LF (setO GC (cutO GC)) GM cJ qo s → GC.1.1 + 207 ≤ GC.1.2.1 → SCok ΓC.2 → SMok ΓM.2 → tyOK ΓC (0, 11) 64 → tyOK ΓM (0, 12) 64 → CaseOK p l e s m b below meth c L xs (setO GC (cutO GC)) GM ΓC ΓM cJ qo (NBx GC GM qo) (fun _ t => SimX t) 1193)
    (h32 : ∀ (GC GM : gg) (cJ : ClassId) (qo : Nat) (ΓC ΓM : ly), LF (setO GC (cutO GC)) GM cJ qo s → GC.1.1 + 207 ≤ GC.1.2.1 → SCok ΓC.2 → SMok ΓM.2 → tyOK ΓC (0, 11) 64 → tyOK ΓM (0, 12) 64 → CaseOK p l e s m b below meth c L xs (setO GC (cutO GC)) GM ΓC ΓM cJ qo (NBx GC GM qo) (fun _ t => SimX t) 1218) :
    W p l e room_1 s m #[Value.ref b] below meth c s.heap [] 0 0 (lw_Z below #[Value.ref b] s) (entryFrame m ([Value.ref b] : List Value).toArray 7) := by
  obtain ⟨ΓC, σC, hfC, hkC, hwC, hbC⟩ := okK_some start_K
  obtain ⟨ΓM, σM, hfM, hkM⟩ := okM_some start_M
  obtain ⟨hSC, hSM, hsim⟩ := start_sim hkC hkM
  refine law_begin C0 hfC hfM (fun GC GM cJ qo H locs ls F _ _ R1 R2 ho hS tx tm hlv => ?_)
  have F1 := F (cutO GC)
  have hf : GC.1.2.2 = false := F1.2.2.1
  have R1c := R1.cut hf F1.1.2.1 (wtb_ok hwC)
  have h271 : GC.1.1 + 207 ≤ GC.1.2.1 := by
    have h1 := R1.1.2.1
    have h2 := R1.2.1
    have h3 : ΓC.1 = 271 := by
      have h4 := hbC
      simp only [ckB, Bool.and_eq_true, decide_eq_true_eq] at h4
      exact h4.1.1.1.1.1.1.1
    rw [h3] at h1
    have h5 : GC.2.1 271 = GC.1.1 + 207 := F1.1.2.1 207
    omega
  have hnB : NBx GC GM qo (0, fun _ => 0) H := nb_start0 R1 hbC (by rw [← hfC]; exact start_F)
  have hnb : ∀ t, NBs (setO GC (cutO GC)) GM qo (NBx GC GM qo t) := fun t => nb_stays F1 F1.1.2.1 h271
  exact law_loop (Sim := fun _ t => SimX t) (NB := NBx GC GM qo) (GC := setO GC (cutO GC)) (ΓC := cutL ΓC) (K0 := 226) (N0 := 23670) hnb (fun i t _ => ops_ok hSC hSM t) (fun i t σC σM _ h => h)
    (law_person hl hnb hSC hSM C0 hL F1 (cut_ty tx) tm) (law_glass hl hnb hSC hSM C0 hL F1 (cut_ty tx) tm)
    (h31 GC GM cJ qo (cutL ΓC) ΓM F1 h271 hSC hSM (cut_ty tx) tm) (h32 GC GM cJ qo (cutL ΓC) ΓM F1 h271 hSC hSM (cut_ty tx) tm) C0 hL F1 (cut_ty tx) tm (by decide) (by decide)
    (L + 1) 0 (0, fun _ => 0) σC σM H locs ls (Nat.zero_le _) (by omega) hsim ⟨R1c, R2, ⟨0, ho⟩, hS, hnB⟩ hlv
