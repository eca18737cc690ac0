/-! what the heap holds of the StringBuilder, beside the two regions -/
/-- the StringBuilder at GC.2.1 209, its bytes at A: the text t -/
def NBx (GC GM : gg) (qo : Nat) (t : Nat × (Int → Int)) (H : Heap) : Prop := ∃ (A cap : Nat) (f : Nat → Int32) (vs : List Value), va_at GC.2.2.1 vwCl (GC.2.1 209, .inr (0, vs)) H ∧ vs.length = 4 ∧ vs[0]? = some (.ref A) ∧ vs[1]? = some (.int 0) ∧ (∃ ml, vs[2]? = some (.int ml)) ∧ vs[3]? = some (.int (nI t.1)) ∧ H[A]? = some (vp_cell (GC.2.2.2.1 2) (cap, .inl f)) ∧ t.1 ≤ cap ∧ (cap = 16 ∨ cap = 34) ∧ sb_Fit f ∧ (∀ j : Nat, j < t.1 → (0 ≤ t.2 j ∧ t.2 j < 256) ∧ f j = sb_b (t.2 j).toNat) ∧ (A = GC.2.1 210 ∨ (GC.1.2.1 ≤ A ∧ GM.1.2.1 ≤ A ∧ A ≠ qo))
theorem nb_stays {GC GM : gg} {cJ : ClassId} {qo : Nat} {s : State} {t : Nat × (Int → Int)} (F : LF (setO GC (cutO GC)) GM cJ qo s) (hA : ∀ k, GC.2.1 (64 + k) = GC.1.1 + k) (h271 : GC.1.1 + 207 ≤ GC.1.2.1) : NBs (setO GC (cutO GC)) GM qo (NBx GC GM qo t) := by
  rintro H H1 ⟨A, cap, f, vs, h1, h2, h3, h4, h5, h6, h7, h8, h9, h10, h11, h12⟩ hz ho
  obtain ⟨k1, k2, f1, f2, b1, b2, b3, b4, b5, -⟩ := F
  have e9 : GC.2.1 209 = GC.1.1 + 145 := hA 145
  have e10 : GC.2.1 210 = GC.1.1 + 146 := hA 146
  have b3' : GC.1.2.1 ≤ GM.1.1 := b3
  have b5' : GC.1.2.1 ≤ qo := b5
  have q9 : H1[GC.2.1 209]? = H[GC.2.1 209]? := ho _ h1.lt (fun w => w.2.2.1 rfl) (fun w => by have := w.1; omega) (by omega)
  have qA : H1[A]? = H[A]? := by
    refine ho A (Array.getElem?_eq_some_iff.mp h7).1 (fun w => ?_) (fun w => ?_) ?_
    · rcases h12 with r | ⟨r, -⟩
      · exact w.2.2.2 r
      · have w2 : A < GC.1.2.1 := w.2.1
        omega
    · have w1 := w.1
      have w2 := w.2.1
      rcases h12 with r | ⟨r1, r2, r3⟩ <;> omega
    · rcases h12 with r | ⟨r1, r2, r3⟩ <;> omega
  exact ⟨A, cap, f, vs, h1.kept q9, h2, h3, h4, h5, h6, qA.trans h7, h8, h9, h10, h11, h12⟩
theorem nb_start {GC GM : gg} {qo : Nat} {ΓC : ly} {σC : mm} {H : Heap} (hA : ∀ k, GC.2.1 (64 + k) = GC.1.1 + k) (R1 : Rep GC ΓC σC H) (hb : ckB ΓC σC = true) (hf : sb_Fit (σC.1 210)) : NBx GC GM qo (0, fun _ => 0) H := by
  simp only [ckB, Bool.and_eq_true, decide_eq_true_eq] at hb
  obtain ⟨⟨⟨⟨⟨⟨⟨c1, c2⟩, c3⟩, c4⟩, c5⟩, c6⟩, c7⟩, c8⟩ := hb
  have o1 := R1.obj (ci := 0) (a := 209) ⟨by decide, by omega, c2⟩
  have o2 := R1.2.2.2 210 (.inl (GC.2.2.2.1 2, 16, .inl (σC.1 210))) (by decide) (by omega) (by rw [c3]; rfl)
  refine ⟨GC.2.1 210, 16, σC.1 210, _, o1, h_fs_len, ?_, ?_, ⟨σC.1 209 2, ?_⟩, ?_, o2, by decide, Or.inl rfl, hf, fun j hj => absurd hj (by simp), Or.inl rfl⟩
  · rw [h_fs_get (by decide)]
    show some (va_rf ((σC.2.2 209 0).map GC.2.1)) = _
    rw [c4]
    rfl
  · rw [h_fs_get (by decide)]
    show some (Value.int (σC.1 209 1)) = _
    rw [c5]
  · rw [h_fs_get (by decide)]
    rfl
  · rw [h_fs_get (by decide)]
    show some (Value.int (σC.1 209 3)) = _
    rw [c7]
    rfl
