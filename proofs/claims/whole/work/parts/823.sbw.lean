/-! the StringBuilder's two cells; rules over a list of cells -/
def PD (E : ee) (ws : va_W) (H : Heap) : Prop := va_P E.1.2.2.1 vwCl ws H ∧ va_D E.2.2.2.2 ws
def wB (G : gg) (A cap : Nat) (f : Nat → Int32) (ml n : Int32) : va_W := [(G.2.1 209, .inr (0, [.ref A, .int 0, .int ml, .int n])), (A, .inl (G.2.2.2.1 2, cap, .inl f))]
def SBw (E : ee) (A cap : Nat) (f : Nat → Int32) (ml n : Int32) : Heap → Prop := PD E (wB E.1 A cap f ml n)
section PDR
variable {l : Launch} {E : ee} {y : MethodName} {cc : ByteArray} {nL : Nat} {ret : Option FieldType} {d mc ms : Nat} {Q : Option Value → Heap → Prop} {k n pc : Nat} {lv lv' : List (Nat × Value)} {st : List Value} {I I3 : Heap → Prop} {ws : va_W} {a : Nat}
theorem j_put (ws' : va_W) {q0 ci : Nat} {fs : List Value} {index j t : Nat} {fty : FieldType} {v : Value} (hd : decode cc pc = .ok (.putfield index, 3)) (F : FD y.cls index ci j t fty false) (he : ws[q0]? = some (a, .inr (ci, fs))) (hn : narrow fty v = v) (hfit : fits fty v = true) (hl : j < fs.length) (hs : ws.set q0 (a, .inr (ci, fs.set j v)) = ws') (kk : WJ l E y cc nL ret d mc ms Q k n (pc + 3) lv st (PD E ws')) : WJ l E y cc nL ret d mc ms Q k n pc lv (v :: .ref a :: st) (PD E ws) := by
  intro p e s m args below meth c H locs ls A Rp S L
  obtain ⟨C, T, N, ty, hc, hN, hin, hty, hnm, hj, hkt, htj, hfin, hlink⟩ := F
  have hts : ∀ w ∈ gw, w.before args s = true := fun w h => A.2.2.2.2.1 w (List.mem_cons_of_mem _ h)
  subst hs
  exact va_put (C := C) (T := T) (N := N) A.1 A.2.1 hts hin ty hty hnm A.2.2.2.1 A.2.2.2.2.2.2.2.2.1.1 Rp.1 Rp.2 S q0 he hc j hj (hts _ hlink) (fun _ h => h) hfin (hty j hj) (by rw [htj]; exact hn) (by rw [htj]; exact hfit) hl hd (fun H1 locs1 h1 h2 h3 => kk p e s m args below meth c H1 locs1 ls A ⟨h1, h2⟩ h3 L)
theorem j_alen {q0 t0 : Nat} {cA : ClassId} {x : vp_A} {ty : FieldType} (hd : decode cc pc = .ok (.arraylength, 1)) (ha : ws[q0]? = some (a, .inl (cA, x))) (ht : (tysOf E.1)[t0]? = some (cA, ty)) (kk : WJ l E y cc nL ret d mc ms Q k n (pc + 1) lv (.int (nI x.1) :: st) (PD E ws)) : WJ l E y cc nL ret d mc ms Q k n pc lv (.ref a :: st) (PD E ws) :=
  fun p e s m args below meth c H locs ls A Rp S L => va_alen A.1 A.2.1 A.2.2.2.2.2.2.2.2.1.1 Rp.1 q0 t0 ha ht rfl hd (kk p e s m args below meth c H locs ls A Rp S L)
theorem j_bald {q0 t0 : Nat} {cA : ClassId} {N : Nat} {f : Nat → Int32} {i : Int32} (hd : decode cc pc = .ok (.baload, 1)) (ha : ws[q0]? = some (a, .inl (cA, N, .inl f))) (ht : (tysOf E.1)[t0]? = some (cA, .byte)) (hin : vp_in i N) (kk : WJ l E y cc nL ret d mc ms Q k n (pc + 1) lv (.int (f i.toNatClampNeg) :: st) (PD E ws)) : WJ l E y cc nL ret d mc ms Q k n pc lv (.int i :: .ref a :: st) (PD E ws) :=
  fun p e s m args below meth c H locs ls A Rp S L => va_bald A.1 A.2.1 A.2.2.2.2.2.2.2.2.1.1 Rp.1 q0 t0 ha ht hin hd (kk p e s m args below meth c H locs ls A Rp S L)
theorem j_bast (ws' : va_W) {q0 t0 : Nat} {cA : ClassId} {N : Nat} {f : Nat → Int32} {i x : Int32} (hd : decode cc pc = .ok (.bastore, 1)) (ha : ws[q0]? = some (a, .inl (cA, N, .inl f))) (ht : (tysOf E.1)[t0]? = some (cA, .byte)) (hin : vp_in i N) (hs : ws.set q0 (a, .inl (cA, N, .inl (upd f i.toNatClampNeg (vp_nar .byte x)))) = ws') (kk : WJ l E y cc nL ret d mc ms Q k n (pc + 1) lv st (PD E ws')) : WJ l E y cc nL ret d mc ms Q k n pc lv (.int x :: .int i :: .ref a :: st) (PD E ws) := by
  intro p e s m args below meth c H locs ls A Rp S L
  subst hs
  exact va_bast A.1 A.2.1 A.2.2.2.2.2.2.2.2.1.1 Rp.1 Rp.2 S q0 t0 ha ht hin hd (fun H1 locs1 h1 h2 h3 => kk p e s m args below meth c H1 locs1 ls A ⟨h1, h2⟩ h3 L)
theorem j_room {d : Nat} {st : List Value} (hst : (st.map fun v => v.category).sum ≤ 8) (hdd : 1 ≤ d) : (st.map fun v => v.category).sum + (nativeFrameWords "java/lang/System" "arraycopy" 5 + 11) ≤ 41 * d + 32 := by
  have h9 : nativeFrameWords "java/lang/System" "arraycopy" 5 ≤ 40 := by decide
  omega
theorem j_copyb (ws' : va_W) {q0 q1 : Nat} {a0 : Nat} {n0 n1 : Nat} {f g : Nat → Int32} {index : Nat} {sp dp w : Int32} (hd : decode cc pc = .ok (.invokestatic index, 3)) (C : CPd y.cls index) (ha0 : ws[q0]? = some (a0, .inl (E.1.2.2.2.1 2, n0, .inl f))) (ha1 : ws[q1]? = some (a, .inl (E.1.2.2.2.1 2, n1, .inl g))) (h1 : ¬ sp < 0) (h2 : ¬ dp < 0) (h3 : ¬ w < 0) (h4 : sp.toNatClampNeg + w.toNatClampNeg ≤ n0) (h5 : dp.toNatClampNeg + w.toNatClampNeg ≤ n1) (hfit : sb_Fit f) (hst : (st.map fun v => v.category).sum ≤ 8) (hdd : 1 ≤ d) (hs : ws.set q1 (a, .inl (E.1.2.2.2.1 2, n1, .inl (va_cpy f g sp.toNatClampNeg dp.toNatClampNeg w.toNatClampNeg))) = ws') (kk : WJ l E y cc nL ret d mc ms Q k n (pc + 3) lv st (PD E ws')) : WJ l E y cc nL ret d mc ms Q k n pc lv (.int w :: .int dp :: .ref a :: .int sp :: .ref a0 :: st) (PD E ws) := by
  intro p e s m args below meth c H locs ls A Rp S L
  have hts : ∀ w ∈ gw, w.before args s = true := fun w h => A.2.2.2.2.1 w (List.mem_cons_of_mem _ h)
  subst hs
  exact va_copyi A.1 A.2.1 (by rw [A.2.2.1, L.1]) A.2.2.2.1 (hts _ C.1) (hts _ C.2.1) (hts _ C.2.2.1) (hts _ C.2.2.2) A.2.2.2.2.2.2.2.2.1.1 Rp.1 Rp.2 S q0 q1 2 2 ha0 ha1 rfl rfl rfl h1 h2 h3 h4 h5 (fun i _ => hfit _) (show 1 ≤ d from hdd) (j_room hst hdd) hd (fun H1 locs1 h1 h2 h3 => kk p e s m args below meth c H1 locs1 ls A ⟨h1, h2⟩ h3 L)
theorem va_S.up {A B : Nat → Prop} {H0 H : Heap} {locs : List Loc} (S : va_S A H0 H locs) (h : ∀ q, A q → B q) : va_S B H0 H locs := ⟨S.1, fun q h1 h2 => S.2.1 q h1 (fun w => h2 (h q w)), fun q hq => h _ (S.2.2 q hq)⟩
theorem va_T.lift {ty : FieldType} {t N : Nat} {f : Nat → Value} {A B : Nat → Prop} {U : State} {H : Heap} (h : va_T ty t N f A U H) (hAB : ∀ q, B q → A q) : va_T ty t N f B U H := h.narrow hAB
/-- arraycopy out of a constant's bytes -/
theorem j_copyT (ws' : va_W) {q1 : Nat} {b0 : Nat} {n0 n1 : Nat} {f g : Nat → Int32} {index : Nat} {sp dp w : Int32} (hd : decode cc pc = .ok (.invokestatic index, 3)) (C : CPd y.cls index) (hX : ∀ s, K9 E s s.heap → va_T .byte b0 n0 (fun j => .int (f j)) (fun q => E.2.2.1 ≤ q) s s.heap) (ha1 : ws[q1]? = some (a, .inl (E.1.2.2.2.1 2, n1, .inl g))) (h1 : ¬ sp < 0) (h2 : ¬ dp < 0) (h3 : ¬ w < 0) (h4 : sp.toNatClampNeg + w.toNatClampNeg ≤ n0) (h5 : dp.toNatClampNeg + w.toNatClampNeg ≤ n1) (hfit : sb_Fit f) (hst : (st.map fun v => v.category).sum ≤ 8) (hdd : 1 ≤ d) (hs : ws.set q1 (a, .inl (E.1.2.2.2.1 2, n1, .inl (va_cpy f g sp.toNatClampNeg dp.toNatClampNeg w.toNatClampNeg))) = ws') (kk : WJ l E y cc nL ret d mc ms Q k n (pc + 3) lv st (PD E ws')) : WJ l E y cc nL ret d mc ms Q k n pc lv (.int w :: .int dp :: .ref a :: .int sp :: .ref b0 :: st) (PD E ws) := by
  intro p e s m args below meth c H locs ls A Rp S L
  have hts : ∀ w ∈ gw, w.before args s = true := fun w h => A.2.2.2.2.1 w (List.mem_cons_of_mem _ h)
  subst hs
  exact vk_copyt A.1 A.2.1 (by rw [A.2.2.1, L.1]) A.2.2.2.1 (hts _ C.1) (hts _ C.2.1) (hts _ C.2.2.1) (hts _ C.2.2.2) A.2.2.2.2.2.2.2.2.1.1 Rp.1 Rp.2 S ((hX s A.2.2.2.2.2.2.2.2.1).narrow (A.2.2.2.2.2.2.2.1.1)) q1 2 ha1 rfl h1 h2 h3 h4 h5 (fun i _ => hfit _) (show 1 ≤ d from hdd) (j_room hst hdd) hd (fun H1 locs1 h1 h2 h3 => kk p e s m args below meth c H1 locs1 ls A ⟨h1, h2⟩ h3 L)
/-- a new row of bytes, behind the cells that are there -/
theorem j_newb {x : Int32} {N : Nat} (hd : decode cc pc = .ok (.newarray .byte, 2)) (hn : ¬ x < 0) (hN : x.toNatClampNeg = N) (hby : N * componentBytes .byte ≤ 536870912) (hk : k + 1 ≤ mc) (hs : n + N ≤ ms) (kk : ∀ q, WJ l E y cc nL ret d mc ms Q (k + 1) (n + N) (pc + 2) lv (.ref q :: st) (PD E (ws ++ [(q, .inl (E.1.2.2.2.1 2, N, .inl (fun _ => 0)))]))) : WJ l E y cc nL ret d mc ms Q k n pc lv (.int x :: st) (PD E ws) := by
  intro p e s m args below meth c H locs ls A Rp S L
  have hts : ∀ w ∈ gw, w.before args s = true := fun w h => A.2.2.2.2.1 w (List.mem_cons_of_mem _ h)
  have hKK := A.2.2.2.2.2.2.2.2
  have hE := A.2.2.2.2.2.2.2.1
  refine va_newaK A.1 A.2.1 (atype := .byte) (hts _ ak_2) rfl hd rfl hn hN hby hk hs rfl fun H1 cA e1 z1 o1 hAr hNm => ?_
  have hcA : cA = E.1.2.2.2.1 2 := Option.some.inj (hNm.symm.trans (hKK.1.1.2 2 _ rfl).2)
  subst hcA
  have hne : ∀ (i : Nat) (x : Nat × va_E), ws[i]? = some x → x.1 ≠ H.size := fun i x hx w => by
    have := (Rp.1 i x hx).lt
    omega
  refine kk H.size p e s m args below meth c H1 locs ls A ⟨va_P.app ?_ ?_, va_D.app Rp.2 ?_ ?_⟩ ⟨Nat.le_trans S.1 (by omega), fun q h1 h2 => (o1 q (by have := S.1; omega)).trans (S.2.1 q h1 h2), S.2.2⟩ L
  · intro i x hx
    exact (Rp.1 i x hx).kept (o1 _ (Rp.1 i x hx).lt)
  · refine one_P ?_
    show H1[H.size]? = some (vp_cell _ _)
    rw [e1, vp_cell_i]
    rfl
  · refine ⟨fun i j p q hi hj _ => ?_, fun i q hi => ?_⟩
    · have h1 : i = 0 := by
        rcases i with _ | i
        · rfl
        · simp at hi
      have h2 : j = 0 := by
        rcases j with _ | j
        · rfl
        · simp at hj
      rw [h1, h2]
    · rcases i with _ | i
      · simp at hi
        subst hi
        exact hE.2 _ (Nat.le_trans hKK.2 S.1)
      · simp at hi
  · intro i j p q hi hj
    rcases j with _ | j
    · simp at hj
      subst hj
      exact hne i p hi
    · simp at hj
theorem PD.sub {ws ws' : va_W} {H : Heap} (h : PD E ws H) (is : List Nat) (hn : va_nd is = true) (h1 : is.filterMap (fun i => ws[i]?) = ws') (h2 : is.map (fun i => ws[i]?) = ws'.map some) : PD E ws' H := ⟨h.1.sub is h1, h.2.sub is hn h2⟩
theorem j_cU {index : Nat} {y2 : MethodName} {cc2 : ByteArray} {nL2 np d2 mc2 ms2 : Nat} {ret2 : Option FieldType} {rv : Option Value} (As : List Value) {As' : List Value} (hd : decode cc pc = .ok (.invokevirtual index, 3)) (hy : y.cls = RJ5) (C : CUb index y2 cc2 nL2 ret2 np) (hrc : Rcv E I a RJ4) (hn : As.length = np) (has : As.reverse ++ .ref a :: st = As') (hst : (st.map fun v => v.category).sum ≤ 8) (hdd : d2 + 1 ≤ d) (hm1 : k + mc2 ≤ mc) (hm2 : n + ms2 ≤ ms)
    (hM : CJ l E y2 cc2 nL2 ret2 d2 mc2 ms2 (.ref a :: As) I (fun v H => v = rv ∧ I3 H)) (kk : WJ l E y cc nL ret d mc ms Q (k + mc2) (n + ms2) (pc + 3) lv (rv.toList ++ st) I3) : WJ l E y cc nL ret d mc ms Q k n pc lv As' I :=
  j_callU (O2 := E.2.2.2.2) (I2 := I) As hd hy C hrc hn has hst hdd hm1 hm2 hM (fun _ h => h) (fun _ h => h) (fun v p e s m args below meth c H locs ls A Rp S L => by
    obtain ⟨H0, i0, ⟨rfl, i1⟩, i2, i3⟩ := Rp
    exact kk p e s m args below meth c H locs ls A i1 S L)
theorem j_cSU {index : Nat} {y2 : MethodName} {cc2 : ByteArray} {nL2 np d2 mc2 ms2 : Nat} {ret2 : Option FieldType} {rv : Option Value} (As : List Value) {As' : List Value} (hd : decode cc pc = .ok (.invokespecial index, 3)) (hy : y.cls = RJ4) (C : CSb index y2 cc2 nL2 ret2 np) (hrc : Rcv E I a RJ4) (hn : As.length = np) (has : As.reverse ++ .ref a :: st = As') (hst : (st.map fun v => v.category).sum ≤ 8) (hdd : d2 + 1 ≤ d) (hm1 : k + mc2 ≤ mc) (hm2 : n + ms2 ≤ ms)
    (hM : CJ l E y2 cc2 nL2 ret2 d2 mc2 ms2 (.ref a :: As) I (fun v H => v = rv ∧ I3 H)) (kk : WJ l E y cc nL ret d mc ms Q (k + mc2) (n + ms2) (pc + 3) lv (rv.toList ++ st) I3) : WJ l E y cc nL ret d mc ms Q k n pc lv As' I :=
  j_callSU (O2 := E.2.2.2.2) (I2 := I) As hd hy C hrc hn has hst hdd hm1 hm2 hM (fun _ h => h) (fun _ h => h) (fun v p e s m args below meth c H locs ls A Rp S L => by
    obtain ⟨H0, i0, ⟨rfl, i1⟩, i2, i3⟩ := Rp
    exact kk p e s m args below meth c H locs ls A i1 S L)
theorem j_cV {index : Nat} {y2 : MethodName} {cc2 : ByteArray} {nL2 np d2 mc2 ms2 : Nat} {ret2 : Option FieldType} {rv : Option Value} (As : List Value) {As' : List Value} (hd : decode cc pc = .ok (.invokevirtual index, 3)) (C : CVd y.cls index y2 cc2 nL2 ret2 np) (hrc : Rcv E I a y2.cls) (hn : As.length = np) (has : As.reverse ++ .ref a :: st = As') (hst : (st.map fun v => v.category).sum ≤ 8) (hdd : d2 + 1 ≤ d) (hm1 : k + mc2 ≤ mc) (hm2 : n + ms2 ≤ ms)
    (hM : CJ l E y2 cc2 nL2 ret2 d2 mc2 ms2 (.ref a :: As) I (fun v H => v = rv ∧ I3 H)) (kk : WJ l E y cc nL ret d mc ms Q (k + mc2) (n + ms2) (pc + 3) lv (rv.toList ++ st) I3) : WJ l E y cc nL ret d mc ms Q k n pc lv As' I :=
  j_callV (O2 := E.2.2.2.2) (I2 := I) As hd C hrc hn has hst hdd hm1 hm2 hM (fun _ h => h) (fun _ h => h) (fun v p e s m args below meth c H locs ls A Rp S L => by
    obtain ⟨H0, i0, ⟨rfl, i1⟩, i2, i3⟩ := Rp
    exact kk p e s m args below meth c H locs ls A i1 S L)
theorem j_cS {index : Nat} {y2 : MethodName} {cc2 : ByteArray} {nL2 np d2 mc2 ms2 : Nat} {ret2 : Option FieldType} {rv : Option Value} (As : List Value) {As' : List Value} (hd : decode cc pc = .ok (.invokestatic index, 3)) (C : CSd y.cls index y2 cc2 nL2 ret2 np) (hn : As.length = np) (has : As.reverse ++ st = As') (hst : (st.map fun v => v.category).sum ≤ 8) (hdd : d2 + 1 ≤ d) (hm1 : k + mc2 ≤ mc) (hm2 : n + ms2 ≤ ms)
    (hM : CJ l E y2 cc2 nL2 ret2 d2 mc2 ms2 As I (fun v H => v = rv ∧ I3 H)) (kk : WJ l E y cc nL ret d mc ms Q (k + mc2) (n + ms2) (pc + 3) lv (rv.toList ++ st) I3) : WJ l E y cc nL ret d mc ms Q k n pc lv As' I :=
  j_callS (O2 := E.2.2.2.2) (I2 := I) As hd C hn has hst hdd hm1 hm2 hM (fun _ h => h) (fun _ h => h) (fun v p e s m args below meth c H locs ls A Rp S L => by
    obtain ⟨H0, i0, ⟨rfl, i1⟩, i2, i3⟩ := Rp
    exact kk p e s m args below meth c H locs ls A i1 S L)
theorem rcv_pd {fs : List Value} (h : ws[0]? = some (a, .inr (0, fs))) : Rcv E (PD E ws) a RJ4 := fun s H locs hE hK hI S => va_recv hK.1.1 hI.1 (q0 := 0) (ci := 0) rfl h
theorem rcv_sk {i : Nat} (hi : i < 4) : Rcv E I (E.2.1.2 i).1 RJ0 := fun s H locs hE hK hI S => by
  obtain ⟨cell, h1, h2, h3, -⟩ := ((hK.1.2.2.2.2.1.2.2.2.2.2 i hi).1).kept (S.nine hE).2.1
  exact ⟨cell, h1, h2, h3⟩
end PDR
section SBR
variable {l : Launch} {E : ee} {y : MethodName} {cc : ByteArray} {nL : Nat} {ret : Option FieldType} {d mc ms : Nat} {Q : Option Value → Heap → Prop} {k n pc : Nat} {lv lv' : List (Nat × Value)} {st : List Value} {A cap : Nat} {f : Nat → Int32} {ml cn : Int32}
theorem b_value (hd : decode cc pc = .ok (.getfield 15, 3)) (hy : y.cls = RJ5) (kk : WJ l E y cc nL ret d mc ms Q k n (pc + 3) lv (.ref A :: st) (SBw E A cap f ml cn)) : WJ l E y cc nL ret d mc ms Q k n pc lv (.ref (E.1.2.1 209) :: st) (SBw E A cap f ml cn) :=
  j_get (v := .ref A) hd (by rw [hy]; exact fd_J5_15) (fun H h => h.1 0 _ rfl) rfl kk
theorem b_coder (hd : decode cc pc = .ok (.getfield 22, 3)) (hy : y.cls = RJ5) (kk : WJ l E y cc nL ret d mc ms Q k n (pc + 3) lv (.int 0 :: st) (SBw E A cap f ml cn)) : WJ l E y cc nL ret d mc ms Q k n pc lv (.ref (E.1.2.1 209) :: st) (SBw E A cap f ml cn) :=
  j_get (v := .int 0) hd (by rw [hy]; exact fd_J5_22) (fun H h => h.1 0 _ rfl) rfl kk
theorem b_count (hd : decode cc pc = .ok (.getfield 79, 3)) (hy : y.cls = RJ5) (kk : WJ l E y cc nL ret d mc ms Q k n (pc + 3) lv (.int cn :: st) (SBw E A cap f ml cn)) : WJ l E y cc nL ret d mc ms Q k n pc lv (.ref (E.1.2.1 209) :: st) (SBw E A cap f ml cn) :=
  j_get (v := .int cn) hd (by rw [hy]; exact fd_J5_79) (fun H h => h.1 0 _ rfl) rfl kk
theorem b_alen (hd : decode cc pc = .ok (.arraylength, 1)) (kk : WJ l E y cc nL ret d mc ms Q k n (pc + 1) lv (.int (nI cap) :: st) (SBw E A cap f ml cn)) : WJ l E y cc nL ret d mc ms Q k n pc lv (.ref A :: st) (SBw E A cap f ml cn) :=
  j_alen (q0 := 1) (t0 := 2) (x := (cap, .inl f)) (ty := .byte) hd rfl rfl kk
theorem b_putcount {x : Int32} (hd : decode cc pc = .ok (.putfield 79, 3)) (hy : y.cls = RJ5) (kk : WJ l E y cc nL ret d mc ms Q k n (pc + 3) lv st (SBw E A cap f ml x)) : WJ l E y cc nL ret d mc ms Q k n pc lv (.int x :: .ref (E.1.2.1 209) :: st) (SBw E A cap f ml cn) :=
  j_put (wB E.1 A cap f ml x) (q0 := 0) (ci := 0) (j := 3) hd (by rw [hy]; exact fd_J5_79) rfl rfl rfl (Nat.le_of_ble_eq_true rfl) rfl kk
theorem b_putml {x : Int32} (hd : decode cc pc = .ok (.putfield 73, 3)) (hy : y.cls = RJ5) (hx : isb x = true) (kk : WJ l E y cc nL ret d mc ms Q k n (pc + 3) lv st (SBw E A cap f x cn)) : WJ l E y cc nL ret d mc ms Q k n pc lv (.int x :: .ref (E.1.2.1 209) :: st) (SBw E A cap f ml cn) :=
  j_put (wB E.1 A cap f x cn) (q0 := 0) (ci := 0) (j := 2) hd (by rw [hy]; exact fd_J5_73) rfl (isb_nar hx) (isb_fit hx) (Nat.le_of_ble_eq_true rfl) rfl kk
theorem b_bast {i x : Int32} (hd : decode cc pc = .ok (.bastore, 1)) (hin : vp_in i cap) (kk : WJ l E y cc nL ret d mc ms Q k n (pc + 1) lv st (SBw E A cap (upd f i.toNatClampNeg (vp_nar .byte x)) ml cn)) : WJ l E y cc nL ret d mc ms Q k n pc lv (.int x :: .int i :: .ref A :: st) (SBw E A cap f ml cn) :=
  j_bast (wB E.1 A cap (upd f i.toNatClampNeg (vp_nar .byte x)) ml cn) (q0 := 1) (t0 := 2) hd rfl rfl hin rfl kk
theorem rcv_sb : Rcv E (SBw E A cap f ml cn) (E.1.2.1 209) RJ4 := rcv_pd rfl
theorem z_compact {E : ee} (s : State) (h : K9 E s s.heap) : va_Z "java/lang/String" "COMPACT_STRINGS" "Z" (.int 1) (fun q => E.2.2.1 ≤ q) s s.heap := h.2.2.1.2.2.2.2.2.2.2.2.2.2.2.2.2.1
end SBR
