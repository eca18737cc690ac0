/-! the StringBuilder's bytes at the start -/
def okF (o : Option (ly × mm)) : Bool := match o with
  | none => false
  | some r => (List.range 16).all (fun j => decide (r.2.1 210 j = 0))
set_option maxRecDepth 100000 in
theorem start_F : okF (fX12_init (grow L0 (0, 11)) (zc S0 64) 64) = true := by decide +kernel
theorem arr_congr {cI : ClassId} {n : Nat} {f g : Nat → Int32} (h : ∀ j, j < n → f j = g j) : vp_cell cI (n, .inl f) = vp_cell cI (n, .inl g) := by
  rw [vp_cell_i, vp_cell_i]
  unfold arrV
  have h1 : (fun j : Fin n => Value.int (f j.val)) = fun j => Value.int (g j.val) := by
    funext j
    rw [h j.val j.isLt]
  rw [h1]
theorem nb_start0 {GC GM : gg} {qo : Nat} {ΓC : ly} {σC : mm} {H : Heap} (R1 : Rep GC ΓC σC H) (hb : ckB ΓC σC = true) (hf : okF (some (ΓC, σC)) = true) : NBx GC GM qo (0, fun _ => 0) H := by
  simp only [ckB, Bool.and_eq_true, decide_eq_true_eq] at hb
  obtain ⟨⟨⟨⟨⟨⟨⟨c1, c2⟩, c3⟩, c4⟩, c5⟩, c6⟩, c7⟩, c8⟩ := hb
  have o1 := R1.obj (ci := 0) (a := 209) ⟨by decide, by omega, c2⟩
  have o2 : H[GC.2.1 210]? = some (vp_cell (GC.2.2.2.1 2) (16, .inl (σC.1 210))) := R1.2.2.2 210 (.inl (GC.2.2.2.1 2, 16, .inl (σC.1 210))) (by decide) (by omega) (by rw [c3]; rfl)
  rw [arr_congr (g := fun _ => 0) (fun j hj => of_decide_eq_true (List.all_eq_true.1 (show (List.range 16).all (fun j => decide (σC.1 210 j = 0)) = true from hf) j (List.mem_range.2 hj)))] at o2
  refine ⟨GC.2.1 210, 16, fun _ => 0, _, o1, h_fs_len, ?_, ?_, ⟨σC.1 209 2, ?_⟩, ?_, o2, by decide, Or.inl rfl, sb_fit0, fun j hj => absurd hj (by simp), Or.inl rfl⟩
  · rw [h_fs_get (by decide)]
    show some (va_rf ((σC.2.2 209 0).map GC.2.1)) = _
    rw [c4]
    rfl
  · rw [h_fs_get (by decide)]
    show some (Value.int (σC.1 209 1)) = _
    rw [c5]
  · rw [h_fs_get (by decide)]
    rfl
  · rw [h_fs_get (by decide)]
    show some (Value.int (σC.1 209 3)) = _
    rw [c7]
    rfl
