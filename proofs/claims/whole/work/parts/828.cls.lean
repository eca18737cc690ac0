/-! the class's own walks beside the StringBuilder -/
def TXb (f : Nat → Int32) (T : List Int) : Prop := sb_Fit f ∧ ∀ j, j < T.length → f j = byI (T.getD j 0)
/-- the StringBuilder holds the text T -/
def SBt (E : ee) (cap : Nat) (T : List Int) (H : Heap) : Prop := ∃ (A : Nat) (p : (Nat → Int32) × Int32), TXb p.1 T ∧ SBw E A cap p.1 p.2 (nI T.length) H
def EB (E : ee) : Prop := EOK E ∧ E.2.2.1 ≤ E.1.1.1 ∧ E.1.1.2.2 = false ∧ (∀ k, E.1.2.1 (64 + k) = E.1.1.1 + k) ∧ ∀ q, g_own E.1 q → ¬ E.2.2.2.2 q
def OT (E : ee) : Nat → Prop := fun q => g_own E.1 q ∨ E.2.2.2.2 q
def ET (E : ee) : ee := setE E (OT E)
theorem EB.ok {E : ee} (h : EB E) : EOK (ET E) := ⟨fun q w => by
  rcases w with w | w
  · exact Nat.le_trans h.2.1 w.1
  · exact h.1.1 q w, fun q w => Or.inr (h.1.2 q w)⟩
/-- the class's region and the StringBuilder -/
def BI (E : ee) (Γ : ly) (σ : mm) (cap : Nat) (T : List Int) (H : Heap) : Prop := Rep E.1 Γ σ H ∧ SBt E cap T H
theorem PD.kept {E : ee} {ws : va_W} {H H1 : Heap} (h : PD E ws H) (hq : ∀ q, q < H.size → E.2.2.2.2 q → H1[q]? = H[q]?) : PD E ws H1 := ⟨fun i x hx => (h.1 i x hx).kept (hq _ (h.1 i x hx).lt (h.2.2 i x hx)), h.2⟩
theorem SBt.kept {E : ee} {cap : Nat} {T : List Int} {H H1 : Heap} (h : SBt E cap T H) (hq : ∀ q, q < H.size → E.2.2.2.2 q → H1[q]? = H[q]?) : SBt E cap T H1 := by
  obtain ⟨A, p, h1, h2⟩ := h
  exact ⟨A, p, h1, PD.kept h2 hq⟩
theorem TXb.app {f f' : Nat → Int32} {T L : List Int} (h : TXb f T) (ha : AP f f' T.length L) : TXb f' (T ++ L) := by
  refine ⟨ha.1, fun j hj => ?_⟩
  rw [List.length_append] at hj
  by_cases h1 : j < T.length
  · rw [ha.2.1 j h1, h.2 j h1, List.getD_eq_getElem?_getD, List.getD_eq_getElem?_getD, List.getElem?_append_left h1]
  · have h2 := ha.2.2 (j - T.length) (by omega)
    rw [show T.length + (j - T.length) = j by omega] at h2
    rw [h2, List.getD_eq_getElem?_getD, List.getD_eq_getElem?_getD, List.getElem?_append_right (by omega)]
theorem gC_gC {cap a b : Nat} (h : a ≤ b) (hb : b ≤ 34) : gC (gC cap a) b = gC cap b := by
  unfold gC
  split <;> split <;> first | rfl | (split <;> omega) | omega
theorem gK_gK {cap a b : Nat} (h : a ≤ b) (hb : b ≤ 34) : gK cap a + gK (gC cap a) b = gK cap b := by
  unfold gC gK
  split <;> split <;> first | rfl | (split <;> omega) | omega
section CB
variable {l : Launch} {E : ee} {y : MethodName} {cc : ByteArray} {nL : Nat} {ret : Option FieldType} {d mc ms : Nat} {Q : Option Value → Heap → Prop} {k n pc : Nat} {lv lv' : List (Nat × Value)} {st : List Value} {Γ : ly} {σ : mm} {cap : Nat} {T : List Int} {a : Nat} {I : Heap → Prop}
theorem j_fact {P : Prop} (h : ∀ H, I H → P) (kk : P → WJ l E y cc nL ret d mc ms Q k n pc lv st I) : WJ l E y cc nL ret d mc ms Q k n pc lv st I :=
  fun p e s m args below meth c H locs ls A Rp S L => kk (h H Rp) p e s m args below meth c H locs ls A Rp S L
theorem c_getR {index ci j b : Nat} {fty : FieldType} {fin : Bool} (hd : decode cc pc = .ok (.getfield index, 3)) (F : FD y.cls index ci j 2 fty fin) (ht : tyOK Γ (0, ci) a) (hb : σ.2.2 a j = some b) (kk : WJ l (ET E) y cc nL ret d mc ms Q k n (pc + 3) lv (.ref (E.1.2.1 b) :: st) (BI E Γ σ cap T)) : WJ l (ET E) y cc nL ret d mc ms Q k n pc lv (.ref (E.1.2.1 a) :: st) (BI E Γ σ cap T) := by
  obtain ⟨C, T9, N, ty, hc, hN, hin, hty, hnm, hj, hkt, htj, hfin, hlink⟩ := id F
  refine j_get (E := ET E) (fs := h_fs E.1 σ ci a) (v := .ref (E.1.2.1 b)) hd F (fun H h => h.1.obj ht) ?_ kk
  rw [h_fs_get (by rw [hN]; exact hj), hkt]
  show some (va_rf ((σ.2.2 a j).map E.1.2.1)) = _
  rw [hb]
  rfl
theorem c_getI {index ci j : Nat} {fty : FieldType} {fin : Bool} (hd : decode cc pc = .ok (.getfield index, 3)) (F : FD y.cls index ci j 0 fty fin) (ht : tyOK Γ (0, ci) a) (kk : WJ l (ET E) y cc nL ret d mc ms Q k n (pc + 3) lv (.int (σ.1 a j) :: st) (BI E Γ σ cap T)) : WJ l (ET E) y cc nL ret d mc ms Q k n pc lv (.ref (E.1.2.1 a) :: st) (BI E Γ σ cap T) := by
  obtain ⟨C, T9, N, ty, hc, hN, hin, hty, hnm, hj, hkt, htj, hfin, hlink⟩ := id F
  refine j_get (E := ET E) (fs := h_fs E.1 σ ci a) (v := .int (σ.1 a j)) hd F (fun H h => h.1.obj ht) ?_ kk
  rw [h_fs_get (by rw [hN]; exact hj), hkt]
  rfl
theorem c_iald {i : Int32} (hd : decode cc pc = .ok (.iaload, 1)) (ht : tyOK Γ (1, 0) a) (hin : vp_in i (Γ.2 a).2) (kk : WJ l (ET E) y cc nL ret d mc ms Q k n (pc + 1) lv (.int (σ.1 a i.toNatClampNeg) :: st) (BI E Γ σ cap T)) : WJ l (ET E) y cc nL ret d mc ms Q k n pc lv (.int i :: .ref (E.1.2.1 a) :: st) (BI E Γ σ cap T) := by
  intro p e s m args below meth c H locs ls A Rp S L
  obtain ⟨h1, h2, h3⟩ := ht
  have hat := Rp.1.2.2.2 a (.inl (E.1.2.2.2.1 1, (Γ.2 a).2, .inl (σ.1 a))) h1 h2 (by unfold h_cell; rw [h3] <;> rfl)
  exact va_iald (tys := tysOf E.1) A.1 A.2.1 A.2.2.2.2.2.2.2.2.1.1 (one_P hat) 0 1 rfl rfl hin hd (kk p e s m args below meth c H locs ls A Rp S L)
theorem c_lald {i : Int32} (hd : decode cc pc = .ok (.laload, 1)) (ht : tyOK Γ (4, 0) a) (hin : vp_in i (Γ.2 a).2) (kk : WJ l (ET E) y cc nL ret d mc ms Q k n (pc + 1) lv (.long (σ.2.1 a i.toNatClampNeg) :: st) (BI E Γ σ cap T)) : WJ l (ET E) y cc nL ret d mc ms Q k n pc lv (.int i :: .ref (E.1.2.1 a) :: st) (BI E Γ σ cap T) := by
  intro p e s m args below meth c H locs ls A Rp S L
  obtain ⟨h1, h2, h3⟩ := ht
  have hat := Rp.1.2.2.2 a (.inl (E.1.2.2.2.1 4, (Γ.2 a).2, .inr (.inl (σ.2.1 a)))) h1 h2 (by unfold h_cell; rw [h3] <;> rfl)
  exact va_lald (tys := tysOf E.1) A.1 A.2.1 A.2.2.2.2.2.2.2.2.1.1 (one_P hat) 0 4 rfl rfl hin hd (kk p e s m args below meth c H locs ls A Rp S L)
/-- a call of one of the class's own, by its contract over the picture -/
theorem c_callC {a index : Nat} {ci : Nat} {y2 : MethodName} {cc2 : ByteArray} {nL2 np d2 : Nat} {ret2 : Option FieldType} (As : List Value) {As' : List Value} {σ2 : mm} {rv : Option Value} {r9 : vw_C} (hB : EB E) (hd : decode cc pc = .ok (.invokevirtual index, 3)) (C : CVd y.cls index y2 cc2 nL2 ret2 np) (hc : vwCl[ci]? = some r9) (hcn : r9.1 = y2.cls) (ht : tyOK Γ (0, ci) a) (hn : As.length = np) (has : As.reverse ++ .ref (E.1.2.1 a) :: st = As') (hst : (st.map fun v => v.category).sum ≤ 8) (hdd : d2 + 1 ≤ d) (hm1 : k ≤ mc) (hm2 : n ≤ ms)
    (hM : CT l E.1 y2 cc2 nL2 ret2 d2 0 0 (.ref (E.1.2.1 a) :: As) Γ σ (PP rv Γ σ2)) (kk : WJ l (ET E) y cc nL ret d mc ms Q k n (pc + 3) lv (rv.toList ++ st) (BI E Γ σ2 cap T)) : WJ l (ET E) y cc nL ret d mc ms Q k n pc lv As' (BI E Γ σ cap T) := by
  refine j_callC (E := ET E) As hd C hc hcn ht hn has hst hdd hm1 hm2 hB.2.1 hM (fun H h => h.1) (fun q h => Or.inl h) (j_imp ?_ kk)
  rintro H1 ⟨H, ⟨-, h2⟩, h3, h4, h5⟩
  exact ⟨h3, h2.kept (fun q h6 h7 => h5 q h6 (fun w => hB.2.2.2.2 q w h7))⟩
/-- a call on the StringBuilder -/
theorem c_callB {index : Nat} {y2 : MethodName} {cc2 : ByteArray} {nL2 np d2 mc2 ms2 cap2 : Nat} {ret2 : Option FieldType} (As : List Value) {As' : List Value} {T2 : List Int} {rv : Option Value} (hB : EB E) (hd : decode cc pc = .ok (.invokevirtual index, 3)) (C : CVd y.cls index y2 cc2 nL2 ret2 np) (hy2 : y2.cls = RJ4) (hn : As.length = np) (has : As.reverse ++ .ref (E.1.2.1 209) :: st = As') (hst : (st.map fun v => v.category).sum ≤ 8) (hdd : d2 + 1 ≤ d) (hm1 : k + mc2 ≤ mc) (hm2 : n + ms2 ≤ ms)
    (hM : ∀ (A : Nat) (f : Nat → Int32) (ml : Int32), TXb f T → CJ l E y2 cc2 nL2 ret2 d2 mc2 ms2 (.ref (E.1.2.1 209) :: As) (SBw E A cap f ml (nI T.length)) (fun v H => v = rv ∧ SBt E cap2 T2 H)) (kk : WJ l (ET E) y cc nL ret d mc ms Q (k + mc2) (n + ms2) (pc + 3) lv (rv.toList ++ st) (BI E Γ σ cap2 T2)) : WJ l (ET E) y cc nL ret d mc ms Q k n pc lv As' (BI E Γ σ cap T) := by
  intro p e s m args below meth c H locs ls A9 Rp S L
  obtain ⟨hR, A, pf, hT, hw⟩ := Rp
  refine j_callV (E := ET E) (O2 := E.2.2.2.2) (I := fun H => Rep E.1 Γ σ H ∧ SBw E A cap pf.1 pf.2 (nI T.length) H) (I2 := SBw E A cap pf.1 pf.2 (nI T.length)) As hd C (fun s H locs hE hK hI S => ?_) hn has hst hdd hm1 hm2 (hM A pf.1 pf.2 hT) (fun H h => h.2) (fun q h => Or.inr h) (fun v => ?_) p e s m args below meth c H locs ls A9 ⟨hR, hw⟩ S L
  · rw [hy2]
    exact va_recv hK.1.1 hI.2.1 (q0 := 0) (ci := 0) rfl rfl
  · intro p e s m args below meth c H locs ls A9 Rp S L
    obtain ⟨H0, ⟨i1, -⟩, ⟨rfl, i2⟩, i3, i4⟩ := Rp
    exact kk p e s m args below meth c H locs ls A9 ⟨i1.off hB.2.2.1 hB.2.2.2.1 (fun q h1 h2 => i4 q h1 (hB.2.2.2.2 q h2)), i2⟩ S L
end CB
/-! the StringBuilder's methods, by its text -/
section ST
variable {l : Launch} {E : ee} {cap : Nat} {T : List Int} {A : Nat} {f : Nat → Int32} {ml : Int32}
theorem CJ.mono {y : MethodName} {cc : ByteArray} {nL : Nat} {ret : Option FieldType} {d mc ms : Nat} {As : List Value} {I : Heap → Prop} {Q Q' : Option Value → Heap → Prop} (h : CJ l E y cc nL ret d mc ms As I Q) (hq : ∀ v H, Q v H → Q' v H) : CJ l E y cc nL ret d mc ms As I Q' := by
  intro p e h1 h2 h3 s m args below h4 h5 h6 h7
  obtain ⟨n, o, a1, a2, a3, ⟨⟨⟨v, b1, b2⟩, b4⟩, b5⟩⟩ := h p e h1 h2 h3 s m args below h4 h5 h6 h7
  exact ⟨n, o, a1, a2, a3, ⟨⟨⟨v, b1, hq _ _ b2⟩, b4⟩, b5⟩⟩
theorem t_appendC (hE : EOK E) (d : Nat) (hdd : 5 ≤ d) {c : Nat} (hc : c16 cap) (hT : T.length ≤ cap) (h34 : T.length + 1 ≤ 34) (hcc : c < 256) (h : TXb f T) : CJ l E yJ4_append_cf468 cJ4_append_cf468 2 (some (.object "java/lang/StringBuilder")) d (gK cap (T.length + 1)) (34 * gK cap (T.length + 1)) [.ref (E.1.2.1 209), .int (nI c)] (SBw E A cap f ml (nI T.length)) (fun v H => v = some (.ref (E.1.2.1 209)) ∧ SBt E (gC cap (T.length + 1)) (T ++ [(c : Int)]) H) := by
  refine (kJ4_appendC hE d hdd hc hT h34 h.1 hcc).mono ?_
  rintro v H ⟨h1, A', f', h2, h3⟩
  refine ⟨h1, A', (f', ml), h.app h2, ?_⟩
  rw [List.length_append]
  exact h3
theorem t_appendS (hE : EOK E) (d : Nat) (hdd : 5 ≤ d) {i : Nat} (hi : i < 4) (hc : c16 cap) (hT : T.length ≤ cap) (h34 : T.length + (sLt i).length ≤ 34) (h : TXb f T) : CJ l E yJ4_append_15ec4 cJ4_append_15ec4 2 (some (.object "java/lang/StringBuilder")) d (gK cap (T.length + (sLt i).length)) (34 * gK cap (T.length + (sLt i).length)) [.ref (E.1.2.1 209), .ref (E.2.1.2 i).1] (SBw E A cap f ml (nI T.length)) (fun v H => v = some (.ref (E.1.2.1 209)) ∧ SBt E (gC cap (T.length + (sLt i).length)) (T ++ sLt i) H) := by
  refine (kJ4_appendS hE d hdd hc hT h34 h.1 hi).mono ?_
  rintro v H ⟨h1, A', f', h2, h3⟩
  refine ⟨h1, A', (f', ml), h.app h2, ?_⟩
  rw [List.length_append]
  exact h3
theorem t_appendI (hE : EOK E) (d : Nat) (hdd : 5 ≤ d) {z : Nat} (hz : z < 1000) (hc : c16 cap) (hT : T.length ≤ cap) (h34 : T.length + (digs 3 z).length ≤ 34) (h : TXb f T) : CJ l E yJ4_append_bf812 cJ4_append_bf812 2 (some (.object "java/lang/StringBuilder")) d (gK cap (T.length + (digs 3 z).length)) (34 * gK cap (T.length + (digs 3 z).length)) [.ref (E.1.2.1 209), .int (nI z)] (SBw E A cap f ml (nI T.length)) (fun v H => v = some (.ref (E.1.2.1 209)) ∧ SBt E (gC cap (T.length + (digs 3 z).length)) (T ++ digs 3 z) H) := by
  have e := (gc_AP (f := f) (n := T.length) hz h.1).2
  rw [e] at h34 ⊢
  refine (kJ4_appendI hE d hdd hc hT h34 h.1 hz).mono ?_
  rintro v H ⟨h1, A', f', h2, h3⟩
  refine ⟨h1, A', (f', ml), h.app h2, ?_⟩
  rw [List.length_append, e]
  exact h3
theorem t_setLength (hE : EOK E) (d : Nat) (hdd : 5 ≤ d) (hc : c16 cap) (hT : T.length ≤ 34) (h : TXb f T) : CJ l E yJ4_setLength_d00df cJ4_setLength_d00df 2 none d 0 0 [.ref (E.1.2.1 209), .int 0] (SBw E A cap f ml (nI T.length)) (fun v H => v = none ∧ SBt E cap [] H) := by
  refine (kJ4_setLength hE d hdd hc hT h.1).mono ?_
  rintro v H ⟨h1, A', f', h2, ml', h3⟩
  exact ⟨h1, A', (f', ml'), ⟨h2, fun j hj => absurd hj (by simp)⟩, h3⟩
theorem t_length (hE : EOK E) (d : Nat) (hdd : 1 ≤ d) (h : TXb f T) : CJ l E yJ4_length_8abf5 cJ4_length_8abf5 1 (some .int) d 0 0 [.ref (E.1.2.1 209)] (SBw E A cap f ml (nI T.length)) (fun v H => v = some (.int (nI T.length)) ∧ SBt E cap T H) := by
  refine (kJ4_length hE d hdd).mono ?_
  rintro v H ⟨h1, h3⟩
  exact ⟨h1, A, (f, ml), h, h3⟩
theorem t_charAt (hE : EOK E) (d : Nat) (hdd : 3 ≤ d) {i : Nat} (hi : i < T.length) (hT : T.length ≤ cap) (hc : cap ≤ 34) (hb : ∀ j, j < T.length → 0 ≤ T.getD j 0 ∧ T.getD j 0 < 256) (h : TXb f T) : CJ l E yJ4_charAt_5068e cJ4_charAt_5068e 2 (some .char) d 0 0 [.ref (E.1.2.1 209), .int (nI i)] (SBw E A cap f ml (nI T.length)) (fun v H => v = some (.int (nI (T.getD i 0).toNat)) ∧ SBt E cap T H) := by
  refine (kJ4_charAt hE d hdd hi hT hc).mono ?_
  rintro v H ⟨h1, h3⟩
  refine ⟨?_, A, (f, ml), h, h3⟩
  have hbi := hb i hi
  have e := sb_byte (T.getD i 0).toNat (by omega)
  rw [h1, h.2 i hi]
  unfold byI
  rw [e.1, e.2.1]
end ST
