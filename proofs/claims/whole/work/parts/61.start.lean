def adOf (adE : Nat → Nat) (base k : Nat) : Nat := if k < 64 then adE k else base + (k - 64)
theorem adOf_lt {adE : Nat → Nat} {base k : Nat} (h : k < 64) : adOf adE base k = adE k := if_pos h
theorem adOf_ge {adE : Nat → Nat} {base k : Nat} : adOf adE base (64 + k) = base + k := by
  unfold adOf
  rw [if_neg (by omega)]
  omega
theorem OF_inj {s : State} {o n d : String} {u v : Value} {t : Nat} {A B : Nat → Prop} {H : Heap} (h1 : va_OF o n d u t A s H) (h2 : va_OF o n d v t B s H) : u = v := by
  obtain ⟨cf, k, i, f, cell, g1, g2, g3, g4, g5, g6⟩ := h1
  obtain ⟨cf', k', i', f', cell', q1, q2, q3, q4, q5, q6⟩ := h2
  have e := Option.some.inj (g1.symm.trans q1)
  simp only [Prod.mk.injEq] at e
  obtain ⟨-, -, -, rfl⟩ := e
  cases Option.some.inj (g3.symm.trans q3)
  exact Option.some.inj (g5.symm.trans q5)
set_option maxHeartbeats 4000000 in
set_option maxRecDepth 100000 in
/-- what the picture's words need of the start: for any region beyond the heap -/
theorem start_KK {p : Program} {s : State} {m : MethodId} {meth : Method} {c : Code} {b L : Nat} {xs : Nat → Int32} (C0 : lw_At p s m meth c b L xs) : ∃ (D : va_G) (cy : Nat → ClassId) (adE : Nat → Nat), ∀ (base lim : Nat) (fr : Bool) (O : Nat → Prop), s.heap.size ≤ base → KK ((base, lim, fr), adOf adE base, D, cy, O) s s.heap := by
  obtain ⟨hx, hb, hr, hml, hown, hts, hX, hbl, hlocks, hgv⟩ := C0
  have hs : ∀ w ∈ fl1, w.before #[Value.ref b] s = true := flat_of_before _ hgv
  have ht1 : ∀ w ∈ gw, w.before #[Value.ref b] s = true := fun w hw => hts w (List.mem_filter.mp hw).1
  have hA : ∀ a : Nat, a < s.heap.size → ¬ (fun q : Nat => s.heap.size ≤ q) a := fun a h => Nat.not_le.mpr h
  have tb : ∀ {w : Cond}, w ∈ lw_tbl → w.before #[Value.ref b] s = true := fun h => hts _ h
  obtain ⟨c0, iS0, hKn0⟩ := u_known (C := RJ4) (T := TJ4) (N := 4) (n := 4) ht1 inJ4 (ht1 (.instantiable RJ4 4) (gw1 619 (by decide +kernel) (by decide +kernel)))
  obtain ⟨c1, iS1, hKn1⟩ := u_known (C := RX1) (T := TX1) (N := 9) (n := 9) ht1 inX1 (ht1 (.instantiable RX1 9) (gw1 487 (by decide +kernel) (by decide +kernel)))
  obtain ⟨c2, iS2, hKn2⟩ := u_known (C := RX2) (T := TX2) (N := 5) (n := 5) ht1 inX2 (ht1 (.instantiable RX2 5) (gw1 247 (by decide +kernel) (by decide +kernel)))
  obtain ⟨c3, iS3, hKn3⟩ := u_known (C := RX3) (T := TX3) (N := 11) (n := 11) ht1 inX3 (ht1 (.instantiable RX3 11) (gw1 412 (by decide +kernel) (by decide +kernel)))
  obtain ⟨c4, iS4, hKn4⟩ := u_known (C := RX4) (T := TX4) (N := 20) (n := 20) ht1 inX4 (ht1 (.instantiable RX4 20) (gw1 241 (by decide +kernel) (by decide +kernel)))
  obtain ⟨c5, iS5, hKn5⟩ := u_known (C := RX5) (T := TX5) (N := 4) (n := 4) ht1 inX5 (ht1 (.instantiable RX5 4) (gw1 393 (by decide +kernel) (by decide +kernel)))
  obtain ⟨c6, iS6, hKn6⟩ := u_known (C := RX6) (T := TX6) (N := 11) (n := 11) ht1 inX6 (ht1 (.instantiable RX6 11) (gw1 550 (by decide +kernel) (by decide +kernel)))
  obtain ⟨c7, iS7, hKn7⟩ := u_known (C := RX7) (T := TX7) (N := 5) (n := 5) ht1 inX7 (ht1 (.instantiable RX7 5) (gw1 591 (by decide +kernel) (by decide +kernel)))
  obtain ⟨c8, iS8, hKn8⟩ := u_known (C := RX8) (T := TX8) (N := 11) (n := 11) ht1 inX8 (ht1 (.instantiable RX8 11) (gw1 182 (by decide +kernel) (by decide +kernel)))
  obtain ⟨c9, iS9, hKn9⟩ := u_known (C := RX9) (T := TX9) (N := 2) (n := 2) ht1 inX9 (ht1 (.instantiable RX9 2) (gw1 471 (by decide +kernel) (by decide +kernel)))
  obtain ⟨c10, iS10, hKn10⟩ := u_known (C := RX10) (T := TX10) (N := 6) (n := 6) ht1 inX10 (ht1 (.instantiable RX10 6) (gw1 525 (by decide +kernel) (by decide +kernel)))
  obtain ⟨c11, iS11, hKn11⟩ := u_known (C := RX12) (T := TX12) (N := 18) (n := 18) ht1 inX12 (ht1 (.instantiable RX12 18) (gw1 174 (by decide +kernel) (by decide +kernel)))
  obtain ⟨c12, iS12, hKn12⟩ := u_known (C := RX13) (T := TX13) (N := 43) (n := 43) ht1 inX13 (ht1 (.instantiable RX13 43) (gw1 1751 (by decide +kernel) (by decide +kernel)))
  obtain ⟨y1, z1, w1, a1, b1, d1⟩ := Cond.arrayClass_spec (tb (w := .arrayClass .int) (tb_o1 _ (by decide +kernel)))
  obtain ⟨y2, z2, w2, a2, b2, d2⟩ := Cond.arrayClass_spec (tb (w := .arrayClass .byte) (tb_o1 _ (by decide +kernel)))
  obtain ⟨y3, z3, w3, a3, b3, d3⟩ := Cond.arrayClass_spec (tb (w := .arrayClass .boolean) (tb_o1 _ (by decide +kernel)))
  obtain ⟨y4, z4, w4, a4, b4, d4⟩ := Cond.arrayClass_spec (tb (w := .arrayClass .long) (tb_o1 _ (by decide +kernel)))
  obtain ⟨w5, y5, z5, a5, -, b5, d5, e5⟩ := Cond.arrayOver_spec (tb (w := .arrayOver (.object "GlassVows$Life")) (tb_o1 _ (by decide +kernel)))
  obtain ⟨w6, y6, z6, a6, -, b6, d6, e6⟩ := Cond.arrayOver_spec (tb (w := .arrayOver (.object "GlassVows$Parish")) (tb_o1 _ (by decide +kernel)))
  obtain ⟨w7, y7, z7, a7, -, b7, d7, e7⟩ := Cond.arrayOver_spec (tb (w := .arrayOver (.object "GlassVows$Sentence")) (tb_o1 _ (by decide +kernel)))
  obtain ⟨w8, y8, z8, a8, -, b8, d8, e8⟩ := Cond.arrayOver_spec (tb (w := .arrayOver (.object "GlassVows$Word")) (tb_o1 _ (by decide +kernel)))
  have h0 : ∀ i : Nat, ∃ t : Nat, i < 31 → (Term.static "GlassVows$Word" (wnm i) "LGlassVows$Word;").eval #[Value.ref b] s none [] s = some (.ref t) ∧ va_O "GlassVows$Word" t (fun q : Nat => s.heap.size ≤ q) s s.heap := by
    intro i
    by_cases hi : i < 31
    · obtain ⟨a, c, cell, k, q1, q2, q3, q4, q5, q6, -⟩ := Cond.exactly_spec (hs _ (fl_ex i hi))
      exact ⟨a, fun _ => ⟨q1, cell, q3, q5, by rw [q6]; exact q2, hA a (Array.getElem?_eq_some_iff.mp q3).1⟩⟩
    · exact ⟨0, fun h => absurd h hi⟩
  obtain ⟨adW, hadW⟩ := Classical.axiomOfChoice h0
  have hOF : ∀ (o n d : String) (tm : Nat → Term) (v : Nat → Value), (∀ i, i < 31 → (Cond.eq (.field (.static "GlassVows$Word" (wnm i) "LGlassVows$Word;") o n d) (tm i)).before #[Value.ref b] s = true) → (∀ i, i < 31 → (tm i).eval #[Value.ref b] s none [] s = some (v i)) → ∀ i, i < 31 → va_OF o n d (v i) (adW i) (fun q : Nat => s.heap.size ≤ q) s s.heap := by
    intro o n d tm v hf ht i hi
    have hv := va_eqv (hf i hi) (ht i hi)
    cases hfo : s.fieldFound? o n d with
    | none =>
      rw [va_fe (hadW i hi).1] at hv
      simp [State.fieldOf?, State.fieldNamed?, hfo] at hv
    | some x =>
      obtain ⟨cf, k, fi, f⟩ := x
      obtain ⟨g1, cell, g2, g3, -, -, g6⟩ := Term.field_spec hfo (hadW i hi).1 hv
      exact ⟨cf, k, fi, f, cell, hfo, g1, g2, g3, g6, hA _ (Array.getElem?_eq_some_iff.mp g2).1⟩
  have hord := hOF "java/lang/Enum" "ordinal" "I" (fun i => .int (Int32.ofNat i)) (fun i => .int (Int32.ofNat i)) (fun i hi => hs _ (fl_ord i hi)) (fun _ _ => rfl)
  have hcode := hOF "GlassVows$Word" "code" "J" (fun i => .long (wcode i)) (fun i => .long (wcode i)) (fun i hi => hs _ (fl_code i hi)) (fun _ _ => rfl)
  have hinj : ∀ i j, i < 31 → j < 31 → adW i = adW j → i = j := by
    intro i j hi hj e
    have h1 := hord i hi
    rw [e] at h1
    have h2 := OF_inj h1 (hord j hj)
    have h3 : Int32.ofNat i = Int32.ofNat j := by injection h2
    exact (nI_eq (by omega) (by omega)).mp h3
  obtain ⟨tA, evA, hTA⟩ := va_Tof (tm := .static "GlassVows$Word" "ALL" "[LGlassVows$Word;") (ty := .object "GlassVows$Word") (N := 31) (f := fun j => .ref (adW j)) (A := fun q : Nat => s.heap.size ≤ q) (by decide) (hs _ (fl_o1 _ (by decide +kernel))) (va_eqt (hs _ (fl_o1 _ (by decide +kernel)))) (fun j hj => va_eqv (hs _ (fl_all j hj)) (hadW j hj).1) hA
  obtain ⟨tS, evS, hTS⟩ := va_Tof (tm := .static "GlassVows$1" "$SwitchMap$GlassVows$Word" "[I") (ty := .int) (N := 31) (f := fun j => .int (swm j)) (A := fun q : Nat => s.heap.size ≤ q) (by decide) (hs _ (fl_o1 _ (by decide +kernel))) (va_eqt (hs _ (fl_o1 _ (by decide +kernel)))) (fun j hj => va_eqt (hs _ (fl_swm j hj))) hA
  have hSR : ∀ (k : Nat) (tx : String), Cond.stringRef "GlassVows" k tx ∈ lw_tbl → ∃ a, vk_R "GlassVows" k tx a s := by
    intro k tx hw
    have h1 := tb hw
    obtain ⟨cG, kG, gG⟩ : ∃ cG, s.vm.findClass "GlassVows" = some cG ∧ True := by
      have h2 := h1
      simp only [Cond.before, Cond.holds, Cond.value] at h2
      cases hc : s.vm.findClass "GlassVows" with
      | none => simp [hc] at h2
      | some cur => exact ⟨cur, rfl, trivial⟩
    obtain ⟨-, -, -, sa, -, -, -, -, -, hev⟩ := Cond.stringRef_spec kG h1
    exact ⟨sa, vk_R.of (A := #[Value.ref b]) h1 hev⟩
  have iW := tb (w := .initialized "GlassVows$Word") (tb_o1 _ (by decide +kernel))
  have i1 := tb (w := .initialized "GlassVows$1") (tb_o1 _ (by decide +kernel))
  have hZA := va_Zref (tb (w := .laysStatic "GlassVows$Word" "ALL" "[LGlassVows$Word;") (tb_o1 _ (by decide +kernel))) iW evA hA
  have hZS := va_Zref (tb (w := .laysStatic "GlassVows$1" "$SwitchMap$GlassVows$Word" "[I") (tb_o1 _ (by decide +kernel))) i1 evS hA
  have hZC := va_Zof (tb (w := .laysStatic "java/lang/String" "COMPACT_STRINGS" "Z") (tb_o1 _ (by decide +kernel))) (tb (w := .initialized "java/lang/String") (tb_o1 _ (by decide +kernel))) (va_eqi (z := 1) (hs _ (fl_o1 _ (by decide +kernel)))) hA
  refine ⟨(fun k => match k with | 0 => c0 | 1 => c1 | 2 => c2 | 3 => c3 | 4 => c4 | 5 => c5 | 6 => c6 | 7 => c7 | 8 => c8 | 9 => c9 | 10 => c10 | 11 => c11 | 12 => c12 | _ => c0, fun k => match k with | 0 => iS0 | 1 => iS1 | 2 => iS2 | 3 => iS3 | 4 => iS4 | 5 => iS5 | 6 => iS6 | 7 => iS7 | 8 => iS8 | 9 => iS9 | 10 => iS10 | 11 => iS11 | 12 => iS12 | _ => iS0), (fun k => match k with | 0 => y1 | 1 => y1 | 2 => y2 | 3 => y3 | 4 => y4 | 5 => y5 | 6 => y6 | 7 => y7 | 8 => y8 | _ => y1), (fun k => if k < 31 then adW k else if k = 31 then tA else tS), ?_⟩
  intro base lim fr O hbase
  have hAB : ∀ q, g_own (((base, lim, fr), adOf (fun k => if k < 31 then adW k else if k = 31 then tA else tS) base, (fun k => match k with | 0 => c0 | 1 => c1 | 2 => c2 | 3 => c3 | 4 => c4 | 5 => c5 | 6 => c6 | 7 => c7 | 8 => c8 | 9 => c9 | 10 => c10 | 11 => c11 | 12 => c12 | _ => c0, fun k => match k with | 0 => iS0 | 1 => iS1 | 2 => iS2 | 3 => iS3 | 4 => iS4 | 5 => iS5 | 6 => iS6 | 7 => iS7 | 8 => iS8 | 9 => iS9 | 10 => iS10 | 11 => iS11 | 12 => iS12 | _ => iS0), (fun k => match k with | 0 => y1 | 1 => y1 | 2 => y2 | 3 => y3 | 4 => y4 | 5 => y5 | 6 => y6 | 7 => y7 | 8 => y8 | _ => y1), O) : gg) q → (fun q : Nat => s.heap.size ≤ q) q := fun q h => Nat.le_trans hbase h.1
  have ead : ∀ i, i < 31 → adOf (fun k => if k < 31 then adW k else if k = 31 then tA else tS) base i = adW i := fun i hi => by
    rw [adOf_lt (by omega)]
    exact if_pos hi
  refine ⟨⟨?_, ?_⟩, fun k => (show adOf (fun k => if k < 31 then adW k else if k = 31 then tA else tS) base (64 + k) = base + k from adOf_ge), ⟨?_, ?_, ?_, ?_, ?_, ?_, ?_, ?_, ?_, ?_⟩, ?_⟩
  · intro k q hq
    match k, hq with
    | 0, hq => cases hq; exact hKn0
    | 1, hq => cases hq; exact hKn1
    | 2, hq => cases hq; exact hKn2
    | 3, hq => cases hq; exact hKn3
    | 4, hq => cases hq; exact hKn4
    | 5, hq => cases hq; exact hKn5
    | 6, hq => cases hq; exact hKn6
    | 7, hq => cases hq; exact hKn7
    | 8, hq => cases hq; exact hKn8
    | 9, hq => cases hq; exact hKn9
    | 10, hq => cases hq; exact hKn10
    | 11, hq => cases hq; exact hKn11
    | 12, hq => cases hq; exact hKn12
    | k + 13, hq => simp [vwCl] at hq
  · intro k q hq
    match k, hq with
    | 0, hq => cases hq; exact ⟨fun n z => ⟨(fun k h => by cases h), z1, b1, w1, d1⟩, a1⟩
    | 1, hq => cases hq; exact ⟨fun n z => ⟨(fun k h => by cases h), z1, b1, w1, d1⟩, a1⟩
    | 2, hq => cases hq; exact ⟨fun n z => ⟨(fun k h => by cases h), z2, b2, w2, d2⟩, a2⟩
    | 3, hq => cases hq; exact ⟨fun n z => ⟨(fun k h => by cases h), z3, b3, w3, d3⟩, a3⟩
    | 4, hq => cases hq; exact ⟨fun n z => ⟨(fun k h => by cases h), z4, b4, w4, d4⟩, a4⟩
    | 5, hq => cases hq; exact ⟨fun n z => ⟨(fun k h => by cases h), z5, b5, w5, d5⟩, z5, w5, b5, d5, a5, e5⟩
    | 6, hq => cases hq; exact ⟨fun n z => ⟨(fun k h => by cases h), z6, b6, w6, d6⟩, z6, w6, b6, d6, a6, e6⟩
    | 7, hq => cases hq; exact ⟨fun n z => ⟨(fun k h => by cases h), z7, b7, w7, d7⟩, z7, w7, b7, d7, a7, e7⟩
    | 8, hq => cases hq; exact ⟨fun n z => ⟨(fun k h => by cases h), z8, b8, w8, d8⟩, z8, w8, b8, d8, a8, e8⟩
    | k + 9, hq => simp [tysOf] at hq
  · intro i hi
    rw [show (((base, lim, fr), adOf (fun k => if k < 31 then adW k else if k = 31 then tA else tS) base, _, _, _) : gg).2.1 i = adW i from ead i hi]
    exact (va_Zref (tb (List.mem_of_getElem? (ls_words i hi))) iW (hadW i hi).1 hA).narrow hAB
  · intro i hi
    rw [show (((base, lim, fr), adOf (fun k => if k < 31 then adW k else if k = 31 then tA else tS) base, _, _, _) : gg).2.1 i = adW i from ead i hi]
    exact (hadW i hi).2.narrow hAB
  · intro i hi
    rw [show (((base, lim, fr), adOf (fun k => if k < 31 then adW k else if k = 31 then tA else tS) base, _, _, _) : gg).2.1 i = adW i from ead i hi]
    exact (hord i hi).narrow hAB
  · intro i hi
    rw [show (((base, lim, fr), adOf (fun k => if k < 31 then adW k else if k = 31 then tA else tS) base, _, _, _) : gg).2.1 i = adW i from ead i hi]
    exact (hcode i hi).narrow hAB
  · intro i j hi hj e
    have e1 : adOf (fun k => if k < 31 then adW k else if k = 31 then tA else tS) base i = adOf (fun k => if k < 31 then adW k else if k = 31 then tA else tS) base j := e
    rw [ead i hi, ead j hj] at e1
    exact hinj i j hi hj e1
  · exact hZA.narrow hAB
  · obtain ⟨cell, g1, g2, g3, g4, g5, g6, g7⟩ := hTA
    exact ⟨cell, g1, g2, g3, g4, g5, fun j hj => by rw [g6 j hj]; exact congrArg (fun x => some (Value.ref x)) (ead j hj).symm, fun z => g7 (hAB _ z)⟩
  · exact hZS.narrow hAB
  · exact hTS.narrow hAB
  · exact ⟨va_AO.of (tb (tb_o1 _ (by decide +kernel))), va_AO.of (tb (tb_o1 _ (by decide +kernel))), va_AO.of (tb (tb_o1 _ (by decide +kernel))), va_AO.of (tb (tb_o1 _ (by decide +kernel))), hZC.narrow hAB, (vx_Zqof (tb (w := .laysStatic "java/lang/Throwable" "UNASSIGNED_STACK" "[Ljava/lang/StackTraceElement;") (tb_o1 _ (by decide +kernel))) (tb (w := .initialized "java/lang/Throwable") (tb_o1 _ (by decide +kernel))) (hs _ (fl_o1 _ (by decide +kernel))) hA).narrow hAB, (vx_Zqof (tb (w := .laysStatic "java/lang/Throwable" "SUPPRESSED_SENTINEL" "Ljava/util/List;") (tb_o1 _ (by decide +kernel))) (tb (w := .initialized "java/lang/Throwable") (tb_o1 _ (by decide +kernel))) (hs _ (fl_o1 _ (by decide +kernel))) hA).narrow hAB⟩
  · exact ⟨va_Nw.of rfl (tb (tb_o1 _ (by decide +kernel))), va_Nw.of rfl (tb (tb_o1 _ (by decide +kernel))), va_Nw.of rfl (tb (tb_o1 _ (by decide +kernel))), hSR _ _ (tb_o1 _ (by decide +kernel)), hSR _ _ (tb_o1 _ (by decide +kernel)), hSR _ _ (tb_o1 _ (by decide +kernel)), hSR _ _ (tb_o1 _ (by decide +kernel))⟩
