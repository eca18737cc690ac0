/-! what the StringBuilder's walks need of the law's start -/
section UP
variable {C n d : String} {v : Value} {A : Nat → Prop} {U : State} {H : Heap}
theorem va_Z.up (h : va_Z C n d v A U H) : va_Z C n d v (fun q => H.size ≤ q) U H := by
  obtain ⟨cf, kf, fi, f, a, cell, h1, h2, h3, h4, h5, h6, h7, -⟩ := h
  exact ⟨cf, kf, fi, f, a, cell, h1, h2, h3, h4, h5, h6, h7, Nat.not_le.mpr (Array.getElem?_eq_some_iff.mp h5).1⟩
theorem va_O.up {t : Nat} (h : va_O C t A U H) : va_O C t (fun q => H.size ≤ q) U H := by
  obtain ⟨cell, h1, h2, h3, -⟩ := h
  exact ⟨cell, h1, h2, h3, Nat.not_le.mpr (Array.getElem?_eq_some_iff.mp h1).1⟩
theorem va_OF.up {t : Nat} (h : va_OF C n d v t A U H) : va_OF C n d v t (fun q => H.size ≤ q) U H := by
  obtain ⟨cf, k, i, f, cell, h1, h2, h3, h4, h5, -⟩ := h
  exact ⟨cf, k, i, f, cell, h1, h2, h3, h4, h5, Nat.not_le.mpr (Array.getElem?_eq_some_iff.mp h3).1⟩
theorem va_T.up {ty : FieldType} {t N : Nat} {f : Nat → Value} (h : va_T ty t N f A U H) : va_T ty t N f (fun q => H.size ≤ q) U H := by
  obtain ⟨cell, h1, h2, h3, h4, h5, h6, -⟩ := h
  exact ⟨cell, h1, h2, h3, h4, h5, h6, Nat.not_le.mpr (Array.getElem?_eq_some_iff.mp h1).1⟩
theorem va_T.congr {ty : FieldType} {t N : Nat} {f g : Nat → Value} (h : va_T ty t N f A U H) (e : ∀ j, j < N → f j = g j) : va_T ty t N g A U H := by
  obtain ⟨cell, h1, h2, h3, h4, h5, h6, h7⟩ := h
  exact ⟨cell, h1, h2, h3, h4, h5, fun j hj => by rw [h6 j hj, e j hj], h7⟩
theorem vx_Zq.up (h : vx_Zq C n d A U H) : vx_Zq C n d (fun q => H.size ≤ q) U H := by
  obtain ⟨h1, cl, k, i, f, a, cell, g1, g2, g3, g4, g5, g6, g7, g8, g9, -⟩ := h
  refine ⟨?_, cl, k, i, f, a, cell, g1, g2, g3, g4, g5, g6, g7, g8, g9, Nat.not_le.mpr (Array.getElem?_eq_some_iff.mp g5).1⟩
  rcases h1 with h | ⟨t, h⟩
  · exact Or.inl h.up
  · exact Or.inr ⟨t, h.up⟩
end UP
theorem KC.up {G : gg} {U : State} {H : Heap} (h : KC G U H) : KC9 G.2.1 (fun q => H.size ≤ q) U H :=
  ⟨fun i hi => (h.1 i hi).up, fun i hi => (h.2.1 i hi).up, fun i hi => (h.2.2.1 i hi).up, fun i hi => (h.2.2.2.1 i hi).up, h.2.2.2.2.1, h.2.2.2.2.2.1.up, h.2.2.2.2.2.2.1.up, h.2.2.2.2.2.2.2.1.up, h.2.2.2.2.2.2.2.2.1.up, h.2.2.2.2.2.2.2.2.2.1, h.2.2.2.2.2.2.2.2.2.2.1, h.2.2.2.2.2.2.2.2.2.2.2.1, h.2.2.2.2.2.2.2.2.2.2.2.2.1, h.2.2.2.2.2.2.2.2.2.2.2.2.2.1.up, h.2.2.2.2.2.2.2.2.2.2.2.2.2.2.1.up, h.2.2.2.2.2.2.2.2.2.2.2.2.2.2.2.up⟩
theorem tb_sb : ∀ w ∈ ([(.laysStatic "jdk/internal/util/Preconditions" "SIOOBE_FORMATTER" "Ljava/util/function/BiFunction;"), (.initialized "jdk/internal/util/Preconditions"), (.laysStatic "java/lang/Integer" "DigitOnes" "[B"), (.laysStatic "java/lang/Integer" "DigitTens" "[B"), (.initialized "java/lang/Integer"), (.instantiable RJ4 4)] : List Cond), w ∈ lw_tbl := in_tbl [1351, 170, 1445, 1447, 172, 619] (by decide +kernel)
theorem tb_str : ∀ i, i < 4 → Cond.stringRef "GlassVows" (sIx i) (sTx i) ∈ lw_tbl := by
  intro i hi
  have h : i = 0 ∨ i = 1 ∨ i = 2 ∨ i = 3 := by omega
  rcases h with rfl | rfl | rfl | rfl
  · exact List.mem_of_getElem? (i := 1376) (by decide +kernel)
  · exact List.mem_of_getElem? (i := 1428) (by decide +kernel)
  · exact List.mem_of_getElem? (i := 1429) (by decide +kernel)
  · exact List.mem_of_getElem? (i := 1430) (by decide +kernel)
def kpw (y : MethodName) : List Cond := [.privateMethod y, .instanceMethod y, .sameMethod y.cls y.cls y.name y.desc]
theorem tb_kp : ∀ y ∈ kpl, ∀ w ∈ kpw y, w ∈ lw_tbl := by
  intro y hy
  simp only [kpl, List.mem_cons, List.not_mem_nil, or_false] at hy
  rcases hy with rfl | rfl | rfl | rfl
  · exact in_tbl [1271, 1272, 2428] (by decide +kernel)
  · exact in_tbl [1275, 1276, 2429] (by decide +kernel)
  · exact in_tbl [1410, 1411, 2434] (by decide +kernel)
  · exact in_tbl [1414, 1415, 2435] (by decide +kernel)
theorem kp_ne : ∀ y ∈ kpl, y.cls ≠ "java/lang/invoke/MethodHandle" ∧ y.cls ≠ "java/lang/invoke/VarHandle" := by decide
theorem fl_sb : ∀ w ∈ ([Cond.isRef (.static "jdk/internal/util/Preconditions" "SIOOBE_FORMATTER" "Ljava/util/function/BiFunction;"), Cond.arrayOf (.static "java/lang/Integer" "DigitOnes" "[B") .byte, Cond.eq (.length (.static "java/lang/Integer" "DigitOnes" "[B")) (.int 100), Cond.arrayOf (.static "java/lang/Integer" "DigitTens" "[B") .byte, Cond.eq (.length (.static "java/lang/Integer" "DigitTens" "[B")) (.int 100)] : List Cond), w ∈ fl1 := by decide +kernel
theorem fl_d1 : ∀ i, i < 100 → Cond.eq (.elem (.static "java/lang/Integer" "DigitOnes" "[B") (.int (Int32.ofNat i))) (.int (nI (48 + i % 10))) ∈ fl1 := fun i hi => va_run (L := fl1) (N := 100) (p := 88) (f := (fun i => Cond.eq (.elem (.static "java/lang/Integer" "DigitOnes" "[B") (.int (Int32.ofNat i))) (.int (nI (48 + i % 10))))) (by decide +kernel) i hi
theorem fl_d2 : ∀ i, i < 100 → Cond.eq (.elem (.static "java/lang/Integer" "DigitTens" "[B") (.int (Int32.ofNat i))) (.int (nI (48 + i / 10))) ∈ fl1 := fun i hi => va_run (L := fl1) (N := 100) (p := 191) (f := (fun i => Cond.eq (.elem (.static "java/lang/Integer" "DigitTens" "[B") (.int (Int32.ofNat i))) (.int (nI (48 + i / 10))))) (by decide +kernel) i hi
def sTm (i : Nat) : Term := .string "GlassVows" (sIx i)
theorem fs_o : ∀ i, i < 4 → Cond.exactly (sTm i) "java/lang/String" ∈ fl1 ∧ Cond.eq (.field (sTm i) "java/lang/String" "coder" "B") (.int 0) ∈ fl1 ∧ Cond.arrayOf (.field (sTm i) "java/lang/String" "value" "[B") .byte ∈ fl1 ∧ Cond.eq (.length (.field (sTm i) "java/lang/String" "value" "[B")) (.int (Int32.ofNat (sLt i).length)) ∈ fl1 := by decide +kernel
theorem fs_e : ∀ i, i < 4 → ∀ j, j < (sLt i).length → Cond.eq (.elem (.field (sTm i) "java/lang/String" "value" "[B") (.int (Int32.ofNat j))) (.int (byI ((sLt i).getD j 0))) ∈ fl1 := by decide +kernel
set_option maxHeartbeats 4000000 in
set_option maxRecDepth 100000 in
theorem start_9 {p : Program} {s : State} {m : MethodId} {meth : Method} {c : Code} {b L : Nat} {xs : Nat → Int32} {G : gg} (C0 : lw_At p s m meth c b L xs) (hK : KK G s s.heap) : ∃ z : zz, ∀ (N0 : Nat) (Ow : Nat → Prop), K9 (G, z, s.heap.size, N0, Ow) s s.heap := by
  obtain ⟨hx, hb, hr, hml, hown, hts, hX, hbl, hlocks, hgv⟩ := C0
  have hs : ∀ w ∈ fl1, w.before #[Value.ref b] s = true := flat_of_before _ hgv
  have hA : ∀ a : Nat, a < s.heap.size → ¬ (fun q : Nat => s.heap.size ≤ q) a := fun a h => Nat.not_le.mpr h
  have tb : ∀ {w : Cond}, w ∈ lw_tbl → w.before #[Value.ref b] s = true := fun h => hts _ h
  obtain ⟨t1, ev1, hT1⟩ := va_Tof (tm := .static "java/lang/Integer" "DigitOnes" "[B") (ty := .byte) (N := 100) (f := fun j => .int (nI (48 + j % 10))) (A := fun q : Nat => s.heap.size ≤ q) (by decide) (hs _ (fl_sb _ (by simp))) (va_eqt (hs _ (fl_sb (Cond.eq (.length (.static "java/lang/Integer" "DigitOnes" "[B")) (.int 100)) (by simp)))) (fun j hj => va_eqt (hs _ (fl_d1 j hj))) hA
  obtain ⟨t2, ev2, hT2⟩ := va_Tof (tm := .static "java/lang/Integer" "DigitTens" "[B") (ty := .byte) (N := 100) (f := fun j => .int (nI (48 + j / 10))) (A := fun q : Nat => s.heap.size ≤ q) (by decide) (hs _ (fl_sb _ (by simp))) (va_eqt (hs _ (fl_sb (Cond.eq (.length (.static "java/lang/Integer" "DigitTens" "[B")) (.int 100)) (by simp)))) (fun j hj => va_eqt (hs _ (fl_d2 j hj))) hA
  have iI := tb (w := .initialized "java/lang/Integer") (tb_sb _ (by simp))
  have hZ1 := va_Zref (tb (w := .laysStatic "java/lang/Integer" "DigitOnes" "[B") (tb_sb _ (by simp))) iI ev1 hA
  have hZ2 := va_Zref (tb (w := .laysStatic "java/lang/Integer" "DigitTens" "[B") (tb_sb _ (by simp))) iI ev2 hA
  have hZ3 := va_Zqof (tb (w := .laysStatic "jdk/internal/util/Preconditions" "SIOOBE_FORMATTER" "Ljava/util/function/BiFunction;") (tb_sb _ (by simp))) (tb (w := .initialized "jdk/internal/util/Preconditions") (tb_sb _ (by simp))) (hs _ (fl_sb _ (by simp))) hA
  have h0 : ∀ i : Nat, ∃ q : Nat × Nat, i < 4 → SK (sLt i) q.1 q.2 (fun q : Nat => s.heap.size ≤ q) s s.heap ∧ vk_R "GlassVows" (sIx i) (sTx i) q.1 s := by
    intro i
    by_cases hi : i < 4
    · have hl9 := sLt_len i hi
      obtain ⟨adK, adV, hS, hev⟩ := vk_Sof (args := #[Value.ref b]) (s := s) (N := 1) (tm := fun _ => sTm i) (len := [(sLt i).length]) (byt := [(sLt i).map byI]) (A := fun q : Nat => s.heap.size ≤ q)
        (fun k hk => by rw [show k = 0 by omega]; show (sLt i).length < 2 ^ 31; omega)
        (fun k hk => hs _ (fs_o i hi).1) (fun k hk => hs _ (fs_o i hi).2.1) (fun k hk => hs _ (fs_o i hi).2.2.1)
        (fun k hk => by rw [show k = 0 by omega]; exact hs _ (fs_o i hi).2.2.2)
        (fun k hk j hj => by
          rw [show k = 0 by omega] at hj ⊢
          have hj2 : j < (sLt i).length := hj
          have h1 := hs _ (fs_e i hi j hj2)
          have e : ([(sLt i).map byI].getD 0 []).getD j 0 = byI ((sLt i).getD j 0) := by
            show ((sLt i).map byI).getD j 0 = _
            rw [List.getD_eq_getElem?_getD, List.getElem?_map, List.getD_eq_getElem?_getD, List.getElem?_eq_getElem hj2]
            rfl
          rw [e]
          exact h1)
        (fun i j hi hj hne => absurd (show i = j by omega) hne) hA
      refine ⟨(adK 0, adV 0), fun _ => ⟨⟨(hS.1 0 (by decide)).1, (hS.1 0 (by decide)).2.1, (hS.1 0 (by decide)).2.2.1, ?_⟩, vk_R.of (A := #[Value.ref b]) (tb (tb_str i hi)) (hev 0 (by decide))⟩⟩
      refine va_T.congr (hS.1 0 (by decide)).2.2.2 (fun j hj => ?_)
      have hj2 : j < (sLt i).length := hj
      show Value.int (((sLt i).map byI).getD j 0) = _
      rw [List.getD_eq_getElem?_getD, List.getElem?_map, List.getD_eq_getElem?_getD, List.getElem?_eq_getElem hj2]
      rfl
    · exact ⟨(0, 0), fun h => absurd h hi⟩
  obtain ⟨ad, had⟩ := Classical.axiomOfChoice h0
  refine ⟨((t1, t2), ad), fun N0 Ow => ⟨hK.1, hK.2.1, hK.2.2.1.up, hK.2.2.2, ⟨hZ3, hZ1, hT1, hZ2, hT2, fun i hi => (had i hi).1⟩, fun i hi => (had i hi).2, fun y hy => ?_⟩⟩
  have hw := tb_kp y hy
  exact va_Nw.of rfl (sel_priv (kp_ne y hy) (tb (tb_sb _ (by simp))) (tb (hw (.privateMethod y) (by simp [kpw]))) (tb (hw (.instanceMethod y) (by simp [kpw]))) (tb (hw (.sameMethod y.cls y.cls y.name y.desc) (by simp [kpw]))))
