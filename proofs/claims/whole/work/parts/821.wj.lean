/-! WJ: a walk over whatever the heap holds -/
abbrev zz : Type := (Nat × Nat) × (Nat → Nat × Nat)
/-- the class's region; the JDK's constants; where the law's new cells begin; where this call's begin; what may change -/
abbrev ee : Type := gg × zz × Nat × Nat × (Nat → Prop)
def KC9 (ad : Nat → Nat) (A : Nat → Prop) (U : State) (H : Heap) : Prop := (∀ i, i < 31 → va_Z "GlassVows$Word" (wnm i) "LGlassVows$Word;" (.ref (ad i)) A U H) ∧ (∀ i, i < 31 → va_O "GlassVows$Word" (ad i) A U H) ∧ va_Ef 31 "java/lang/Enum" "ordinal" "I" (fun i => .int (Int32.ofNat i)) ad A U H ∧ va_Ef 31 "GlassVows$Word" "code" "J" (fun i => .long (wcode i)) ad A U H ∧ (∀ i j, i < 31 → j < 31 → ad i = ad j → i = j) ∧ va_Z "GlassVows$Word" "ALL" "[LGlassVows$Word;" (.ref (ad 31)) A U H ∧ va_T (.object "GlassVows$Word") (ad 31) 31 (fun j => .ref (ad j)) A U H ∧ va_Z "GlassVows$1" "$SwitchMap$GlassVows$Word" "[I" (.ref (ad 32)) A U H ∧ va_T .int (ad 32) 31 (fun j => .int (swm j)) A U H ∧ va_AO "GlassVows$Life" U ∧ va_AO "GlassVows$Parish" U ∧ va_AO "GlassVows$Sentence" U ∧ va_AO "GlassVows$Word" U ∧ va_Z "java/lang/String" "COMPACT_STRINGS" "Z" (.int 1) A U H ∧ vx_Zq Bundle.tN "UNASSIGNED_STACK" Bundle.steD A U H ∧ vx_Zq Bundle.tN "SUPPRESSED_SENTINEL" Bundle.listD A U H
theorem KC9.narrow {G : gg} {A : Nat → Prop} {U : State} {H : Heap} (h : KC9 G.2.1 A U H) (hAB : ∀ q, g_own G q → A q) : KC G U H :=
  ⟨fun i hi => (h.1 i hi).narrow hAB, fun i hi => (h.2.1 i hi).narrow hAB, fun i hi => (h.2.2.1 i hi).narrow hAB, fun i hi => (h.2.2.2.1 i hi).narrow hAB, h.2.2.2.2.1, h.2.2.2.2.2.1.narrow hAB, h.2.2.2.2.2.2.1.narrow hAB, h.2.2.2.2.2.2.2.1.narrow hAB, h.2.2.2.2.2.2.2.2.1.narrow hAB, h.2.2.2.2.2.2.2.2.2.1, h.2.2.2.2.2.2.2.2.2.2.1, h.2.2.2.2.2.2.2.2.2.2.2.1, h.2.2.2.2.2.2.2.2.2.2.2.2.1, h.2.2.2.2.2.2.2.2.2.2.2.2.2.1.narrow hAB, h.2.2.2.2.2.2.2.2.2.2.2.2.2.2.1.narrow hAB, h.2.2.2.2.2.2.2.2.2.2.2.2.2.2.2.narrow hAB⟩
theorem KC9.moved {ad : Nat → Nat} {A : Nat → Prop} {u U : State} {H : Heap} (hvm : u.vm.Alike U.vm) (h : KC9 ad A u H) : KC9 ad A U H :=
  ⟨fun i hi => va_Z.moved hvm (h.1 i hi), fun i hi => va_O.moved hvm (h.2.1 i hi), va_Ef.moved hvm h.2.2.1, va_Ef.moved hvm h.2.2.2.1, h.2.2.2.2.1, va_Z.moved hvm h.2.2.2.2.2.1, va_T.moved hvm h.2.2.2.2.2.2.1, va_Z.moved hvm h.2.2.2.2.2.2.2.1, va_T.moved hvm h.2.2.2.2.2.2.2.2.1, h.2.2.2.2.2.2.2.2.2.1.moved hvm, h.2.2.2.2.2.2.2.2.2.2.1.moved hvm, h.2.2.2.2.2.2.2.2.2.2.2.1.moved hvm, h.2.2.2.2.2.2.2.2.2.2.2.2.1.moved hvm, va_Z.moved hvm h.2.2.2.2.2.2.2.2.2.2.2.2.2.1, vx_Zq.moved hvm h.2.2.2.2.2.2.2.2.2.2.2.2.2.2.1, vx_Zq.moved hvm h.2.2.2.2.2.2.2.2.2.2.2.2.2.2.2⟩
theorem KC9.kept {ad : Nat → Nat} {A : Nat → Prop} {U : State} {H H1 : Heap} (h : KC9 ad A U H) (hq : ∀ q : Nat, q < H.size → ¬ A q → H1[q]? = H[q]?) : KC9 ad A U H1 :=
  ⟨fun i hi => (h.1 i hi).kept hq, fun i hi => (h.2.1 i hi).kept hq, h.2.2.1.kept hq, h.2.2.2.1.kept hq, h.2.2.2.2.1, h.2.2.2.2.2.1.kept hq, h.2.2.2.2.2.2.1.kept hq, h.2.2.2.2.2.2.2.1.kept hq, h.2.2.2.2.2.2.2.2.1.kept hq, h.2.2.2.2.2.2.2.2.2.1, h.2.2.2.2.2.2.2.2.2.2.1, h.2.2.2.2.2.2.2.2.2.2.2.1, h.2.2.2.2.2.2.2.2.2.2.2.2.1, h.2.2.2.2.2.2.2.2.2.2.2.2.2.1.kept hq, h.2.2.2.2.2.2.2.2.2.2.2.2.2.2.1.kept hq, h.2.2.2.2.2.2.2.2.2.2.2.2.2.2.2.kept hq⟩
def sIx : Nat → Nat := fun i => match i with
  | 0 => 379
  | 1 => 395
  | 2 => 397
  | _ => 399
def sTx : Nat → String := fun i => match i with
  | 0 => " and "
  | 1 => " no more"
  | 2 => " for good"
  | _ => " for "
/-- the four constants' letters -/
def sLt : Nat → List Int := fun i => match i with
  | 0 => [32, 97, 110, 100, 32]
  | 1 => [32, 110, 111, 32, 109, 111, 114, 101]
  | 2 => [32, 102, 111, 114, 32, 103, 111, 111, 100]
  | _ => [32, 102, 111, 114, 32]
def byI (x : Int) : Int32 := sb_b x.toNat
def SK (L : List Int) (aK aV : Nat) (A : Nat → Prop) (U : State) (H : Heap) : Prop := va_O "java/lang/String" aK A U H ∧ va_OF "java/lang/String" "coder" "B" (.int 0) aK A U H ∧ va_OF "java/lang/String" "value" "[B" (.ref aV) aK A U H ∧ va_T .byte aV L.length (fun j => .int (byI (L.getD j 0))) A U H
def KJ (z : zz) (A : Nat → Prop) (U : State) (H : Heap) : Prop := va_Zq "jdk/internal/util/Preconditions" "SIOOBE_FORMATTER" "Ljava/util/function/BiFunction;" A U H ∧ va_Z "java/lang/Integer" "DigitOnes" "[B" (.ref z.1.1) A U H ∧ va_T .byte z.1.1 100 (fun j => .int (nI (48 + j % 10))) A U H ∧ va_Z "java/lang/Integer" "DigitTens" "[B" (.ref z.1.2) A U H ∧ va_T .byte z.1.2 100 (fun j => .int (nI (48 + j / 10))) A U H ∧ ∀ i, i < 4 → SK (sLt i) (z.2 i).1 (z.2 i).2 A U H
theorem SK.moved {L : List Int} {aK aV : Nat} {A : Nat → Prop} {u U : State} {H : Heap} (hvm : u.vm.Alike U.vm) (h : SK L aK aV A u H) : SK L aK aV A U H := ⟨va_O.moved hvm h.1, va_OF.moved hvm h.2.1, va_OF.moved hvm h.2.2.1, va_T.moved hvm h.2.2.2⟩
theorem SK.kept {L : List Int} {aK aV : Nat} {A : Nat → Prop} {U : State} {H H1 : Heap} (h : SK L aK aV A U H) (hq : ∀ q : Nat, q < H.size → ¬ A q → H1[q]? = H[q]?) : SK L aK aV A U H1 := ⟨h.1.kept hq, h.2.1.kept hq, h.2.2.1.kept hq, h.2.2.2.kept hq⟩
theorem KJ.moved {z : zz} {A : Nat → Prop} {u U : State} {H : Heap} (hvm : u.vm.Alike U.vm) (h : KJ z A u H) : KJ z A U H := ⟨h.1.moved hvm, va_Z.moved hvm h.2.1, va_T.moved hvm h.2.2.1, va_Z.moved hvm h.2.2.2.1, va_T.moved hvm h.2.2.2.2.1, fun i hi => (h.2.2.2.2.2 i hi).moved hvm⟩
theorem KJ.kept {z : zz} {A : Nat → Prop} {U : State} {H H1 : Heap} (h : KJ z A U H) (hq : ∀ q : Nat, q < H.size → ¬ A q → H1[q]? = H[q]?) : KJ z A U H1 := ⟨h.1.kept hq, h.2.1.kept hq, h.2.2.1.kept hq, h.2.2.2.1.kept hq, h.2.2.2.2.1.kept hq, fun i hi => (h.2.2.2.2.2 i hi).kept hq⟩
def KS4 (z : zz) (U : State) : Prop := ∀ i, i < 4 → vk_R "GlassVows" (sIx i) (sTx i) (z.2 i).1 U
/-- the private methods of AbstractStringBuilder that are called on a StringBuilder -/
def kpl : List MethodName := [⟨"java/lang/AbstractStringBuilder", "ensureCapacityInternal", "(I)V"⟩, ⟨"java/lang/AbstractStringBuilder", "newCapacity", "(I)I"⟩, ⟨"java/lang/AbstractStringBuilder", "putStringAt", "(ILjava/lang/String;)V"⟩, ⟨"java/lang/AbstractStringBuilder", "inflateIfNeededFor", "(Ljava/lang/String;)V"⟩]
def KP (U : State) : Prop := ∀ y ∈ kpl, va_Nw (.selects RJ4 y y) U
theorem KP.warm {s U : State} (hW : s.WarmedH U.vm) (h : KP s) : KP U := fun y hy => word_at (args := #[]) hW (Or.inl rfl) (h y hy)
theorem KP.same {u U : State} (hvm : u.vm = U.vm) (h : KP u) : KP U := fun y hy => va_Nw.same rfl hvm (h y hy)
def K9 (E : ee) (U : State) (H : Heap) : Prop := va_K E.1.2.2.1 vwCl (tysOf E.1) U ∧ (∀ k, E.1.2.1 (64 + k) = E.1.1.1 + k) ∧ KC9 E.1.2.1 (fun q => E.2.2.1 ≤ q) U H ∧ KN U ∧ KJ E.2.1 (fun q => E.2.2.1 ≤ q) U H ∧ KS4 E.2.1 U ∧ KP U
theorem K9.warm {E : ee} {s U : State} {H : Heap} (hW : s.WarmedH U.vm) (h : K9 E s H) : K9 E U H := ⟨va_K.moved hW.alike h.1, h.2.1, h.2.2.1.moved hW.alike, h.2.2.2.1.warm hW, h.2.2.2.2.1.moved hW.alike, fun i hi => (h.2.2.2.2.2.1 i hi).warm hW, h.2.2.2.2.2.2.warm hW⟩
theorem K9.same {E : ee} {u U : State} {H : Heap} (hvm : u.vm = U.vm) (h : K9 E u H) : K9 E U H := ⟨va_K.moved (by rw [hvm]; exact Vm.Alike.refl _) h.1, h.2.1, h.2.2.1.moved (by rw [hvm]; exact Vm.Alike.refl _), h.2.2.2.1.same hvm, h.2.2.2.2.1.moved (by rw [hvm]; exact Vm.Alike.refl _), fun i hi => (h.2.2.2.2.2.1 i hi).same hvm.symm, h.2.2.2.2.2.2.same hvm⟩
theorem K9.kept {E : ee} {U : State} {H H1 : Heap} (h : K9 E U H) (hq : ∀ q : Nat, q < H.size → ¬ E.2.2.1 ≤ q → H1[q]? = H[q]?) : K9 E U H1 := ⟨h.1, h.2.1, h.2.2.1.kept hq, h.2.2.2.1, h.2.2.2.2.1.kept hq, h.2.2.2.2.2⟩
def setE (E : ee) (O : Nat → Prop) : ee := (E.1, E.2.1, E.2.2.1, E.2.2.2.1, O)
theorem K9.set {E : ee} {O : Nat → Prop} {U : State} {H : Heap} (h : K9 E U H) : K9 (setE E O) U H := h
theorem K9.KK {E : ee} {U : State} {H : Heap} (h : K9 E U H) (hb : E.2.2.1 ≤ E.1.1.1) : KK E.1 U H := ⟨h.1, h.2.1, h.2.2.1.narrow (fun q w => Nat.le_trans hb w.1), h.2.2.2.1⟩
def KE (E : ee) (U : State) : Prop := K9 E U U.heap ∧ E.2.2.2.1 ≤ U.heap.size
theorem KE.set {E : ee} {O : Nat → Prop} {U : State} (h : KE E U) : KE (setE E O) U := h
/-- what may change lies beyond the law's start; what is new may -/
def EOK (E : ee) : Prop := (∀ q, E.2.2.2.2 q → E.2.2.1 ≤ q) ∧ ∀ q, E.2.2.2.1 ≤ q → E.2.2.2.2 q
theorem KE.same {E : ee} {u U : State} (hvm : u.vm = U.vm) (hh : u.heap = U.heap) (h : KE E u) : KE E U := ⟨by rw [← hh]; exact K9.same hvm h.1, by rw [← hh]; exact h.2⟩
theorem KE.at {E : ee} {s U : State} {H : Heap} {locs : List Loc} (h : KE E s) (hE : EOK E) (S : va_S E.2.2.2.2 s.heap H locs) (hU : U.heap = H) (hW : s.WarmedH U.vm) : KE E U := by
  refine ⟨?_, ?_⟩
  · rw [hU]
    exact K9.warm hW (h.1.kept (fun q h1 h2 => S.2.1 q h1 (fun w => h2 (hE.1 q w))))
  · rw [hU]
    exact Nat.le_trans h.2 S.1
theorem va_S.nine {E : ee} {H0 H : Heap} {locs : List Loc} (hE : EOK E) (S : va_S E.2.2.2.2 H0 H locs) : va_S (fun q => E.2.2.1 ≤ q) H0 H locs := ⟨S.1, fun q h1 h2 => S.2.1 q h1 (fun w => h2 (hE.1 q w)), fun q h => hE.1 _ (S.2.2 q h)⟩
def QJ (Ow : Nat → Prop) (Q : Option Value → Heap → Prop) : Array Value → State → Outcome → State → Prop := fun _ st o t => (∃ v : Option Value, o = .returned v ∧ Q v t.heap) ∧ va_F Ow st t
/-- a contract -/
def CJ (l : Launch) (E : ee) (y : MethodName) (cc : ByteArray) (nL : Nat) (ret : Option FieldType) (d mc ms : Nat) (As : List Value) (I : Heap → Prop) (Q : Option Value → Heap → Prop) : Prop :=
  Met l y (Cond.code y cc nL ret :: gw) (rmOf d mc ms) (va_Pc As (fun U => I U.heap ∧ KE E U)) (QJ E.2.2.2.2 Q) mc ms E.2.2.2.2
def AJ (E : ee) (y : MethodName) (cc : ByteArray) (nL : Nat) (ret : Option FieldType) (p : Program) (s : State) (m : MethodId) (args : Array Value) (meth : Method) (c : Code) : Prop :=
  p.tables.exec = Jvm.exec ∧ c.code = cc ∧ c.maxLocals = nL ∧ s.vm.findClass y.cls = some m.cls ∧ (∀ w ∈ (Cond.code y cc nL ret :: gw), w.before args s = true) ∧ meth.sig.returnType = ret ∧ meth.locks = false ∧ EOK E ∧ KE E s
def WJ (l : Launch) (E : ee) (y : MethodName) (cc : ByteArray) (nL : Nat) (ret : Option FieldType) (d mc ms : Nat) (Q : Option Value → Heap → Prop) (k n pc : Nat) (lv : List (Nat × Value)) (st : List Value) (I : Heap → Prop) : Prop :=
  ∀ (p : Program) (e : Env) (s : State) (m : MethodId) (args : Array Value) (below : List Frame) (meth : Method) (c : Code) (H : Heap) (locs : List Loc) (ls : Array Slot), AJ E y cc nL ret p s m args meth c → I H → va_S E.2.2.2.2 s.heap H locs → lv_has ls nL lv →
    W p l e (rmOf d mc ms) s m args below meth c H locs k n (MQ below (QJ E.2.2.2.2 Q) args s mc ms E.2.2.2.2) (F0 m pc ls st)
theorem CJ.ofWJ {l : Launch} {E : ee} {y : MethodName} {cc : ByteArray} {nL : Nat} {ret : Option FieldType} {d mc ms : Nat} {As : List Value} {I : Heap → Prop} {Q : Option Value → Heap → Prop} (hE : EOK E) (hy : plainName y.cls = true) (hl : (lg_sl As).length ≤ nL)
    (h : WJ l E y cc nL ret d mc ms Q 0 0 0 (lv_args 0 As) [] I) : CJ l E y cc nL ret d mc ms As I Q := by
  refine Met.ofW (cc := cc) (maxL := nL) (ret := ret) hy rfl ?_
  intro p e s m args below meth c s₁ B hml hv
  obtain ⟨rfl, hR, hK⟩ := hv
  have hle := lv_entry As (n := nL) hl
  rw [lg_entry_eq]
  exact h p e s m _ below meth c s.heap [] _ ⟨B.exec, B.bytes, hml, findClass_of_methodNamed B.named, atoms_spec (ws := Cond.code y cc nL ret :: gw) B.pre, B.returns, B.notSynchronized, hE, hK⟩ hR va_S.rf hle
section J
variable {l : Launch} {E : ee} {y : MethodName} {cc : ByteArray} {nL : Nat} {ret : Option FieldType} {d mc ms : Nat} {Q : Option Value → Heap → Prop} {k n pc : Nat} {lv lv' : List (Nat × Value)} {st : List Value} {I I' : Heap → Prop}
theorem j_pick (ks : List Nat) (h : lv_pick lv ks = lv') (kk : WJ l E y cc nL ret d mc ms Q k n pc lv' st I) : WJ l E y cc nL ret d mc ms Q k n pc lv st I :=
  fun p e s m args below meth c H locs ls A Rp S L => kk p e s m args below meth c H locs ls A Rp S (lv_sub L ks h)
theorem j_iconst {z : Int} {v : Int32} (hd : decode cc pc = .ok (.iconst z, 1)) (hv : Int32.ofInt z = v) (kk : WJ l E y cc nL ret d mc ms Q k n (pc + 1) lv (.int v :: st) I) : WJ l E y cc nL ret d mc ms Q k n (pc) lv (st) I :=
  fun p e s m args below meth c H locs ls A Rp S L => lv_iconst A.1 A.2.1 hd hv (kk p e s m args below meth c H locs ls A Rp S L)
theorem j_bipush {z : Int} {v : Int32} (hd : decode cc pc = .ok (.bipush z, 2)) (hv : (Int8.ofInt z).toInt32 = v) (kk : WJ l E y cc nL ret d mc ms Q k n (pc + 2) lv (.int v :: st) I) : WJ l E y cc nL ret d mc ms Q k n (pc) lv (st) I :=
  fun p e s m args below meth c H locs ls A Rp S L => lv_bipush A.1 A.2.1 hd hv (kk p e s m args below meth c H locs ls A Rp S L)
theorem j_sipush {z : Int} {v : Int32} (hd : decode cc pc = .ok (.sipush z, 3)) (hv : (Int16.ofInt z).toInt32 = v) (kk : WJ l E y cc nL ret d mc ms Q k n (pc + 3) lv (.int v :: st) I) : WJ l E y cc nL ret d mc ms Q k n (pc) lv (st) I :=
  fun p e s m args below meth c H locs ls A Rp S L => lv_sipush A.1 A.2.1 hd hv (kk p e s m args below meth c H locs ls A Rp S L)
theorem j_ldc {index : Nat} {v : Int32} (hd : decode cc pc = .ok (.ldc index, 2)) (hw : Cond.constant y.cls index v ∈ gw) (kk : WJ l E y cc nL ret d mc ms Q k n (pc + 2) lv (.int v :: st) I) : WJ l E y cc nL ret d mc ms Q k n (pc) lv (st) I :=
  fun p e s m args below meth c H locs ls A Rp S L => lv_ldc A.1 A.2.1 A.2.2.2.1 (A.2.2.2.2.1 _ (List.mem_cons_of_mem _ hw)) hd (kk p e s m args below meth c H locs ls A Rp S L)
theorem j_iload_n {z : Fin 4} {x : Int32} (q : Nat) (hd : decode cc pc = .ok (.iload_n z, 1)) (hk : lv[q]? = some ((z : Nat), .int x)) (kk : WJ l E y cc nL ret d mc ms Q k n (pc + 1) lv (.int x :: st) I) : WJ l E y cc nL ret d mc ms Q k n (pc) lv (st) I :=
  fun p e s m args below meth c H locs ls A Rp S L => lv_iload_n A.1 A.2.1 hd rfl (lv_at L q hk) (kk p e s m args below meth c H locs ls A Rp S L)
theorem j_iload {z : Nat} {x : Int32} (q : Nat) (hd : decode cc pc = .ok (.iload z, 2)) (hk : lv[q]? = some (z, .int x)) (kk : WJ l E y cc nL ret d mc ms Q k n (pc + 2) lv (.int x :: st) I) : WJ l E y cc nL ret d mc ms Q k n (pc) lv (st) I :=
  fun p e s m args below meth c H locs ls A Rp S L => lv_iload A.1 A.2.1 hd (lv_at L q hk) (kk p e s m args below meth c H locs ls A Rp S L)
theorem j_istore_n {z : Fin 4} {x : Int32} (hd : decode cc pc = .ok (.istore_n z, 1)) (hn : (z : Nat) < nL) (hl : ((z : Nat), Value.int x) :: lv.filter (fun q => !(q.1 == (z : Nat)) && !(q.1 + 1 == (z : Nat) && q.2.category == 2)) = lv') (kk : WJ l E y cc nL ret d mc ms Q k n (pc + 1) lv' (st) I) : WJ l E y cc nL ret d mc ms Q k n (pc) lv (.int x :: st) I :=
  fun p e s m args below meth c H locs ls A Rp S L => lv_istore_n A.1 A.2.1 hd rfl L hn hl (fun ls L => (kk p e s m args below meth c H locs ls A Rp S L))
theorem j_istore {z : Nat} {x : Int32} (hd : decode cc pc = .ok (.istore z, 2)) (hn : z < nL) (hl : (z, Value.int x) :: lv.filter (fun q => !(q.1 == z) && !(q.1 + 1 == z && q.2.category == 2)) = lv') (kk : WJ l E y cc nL ret d mc ms Q k n (pc + 2) lv' (st) I) : WJ l E y cc nL ret d mc ms Q k n (pc) lv (.int x :: st) I :=
  fun p e s m args below meth c H locs ls A Rp S L => lv_istore A.1 A.2.1 hd L hn hl (fun ls L => (kk p e s m args below meth c H locs ls A Rp S L))
theorem j_lload_n {z : Fin 4} {x : Int64} (q : Nat) (hd : decode cc pc = .ok (.lload_n z, 1)) (hk : lv[q]? = some ((z : Nat), .long x)) (kk : WJ l E y cc nL ret d mc ms Q k n (pc + 1) lv (.long x :: st) I) : WJ l E y cc nL ret d mc ms Q k n (pc) lv (st) I :=
  fun p e s m args below meth c H locs ls A Rp S L => lv_lload_n A.1 A.2.1 hd rfl (lv_at L q hk) (kk p e s m args below meth c H locs ls A Rp S L)
theorem j_aload_n {z : Fin 4} {x : Nat} (q : Nat) (hd : decode cc pc = .ok (.aload_n z, 1)) (hk : lv[q]? = some ((z : Nat), .ref x)) (kk : WJ l E y cc nL ret d mc ms Q k n (pc + 1) lv (.ref x :: st) I) : WJ l E y cc nL ret d mc ms Q k n (pc) lv (st) I :=
  fun p e s m args below meth c H locs ls A Rp S L => lv_aload_n A.1 A.2.1 hd rfl (lv_at L q hk) (kk p e s m args below meth c H locs ls A Rp S L)
theorem j_astore_n {z : Fin 4} {x : Nat} (hd : decode cc pc = .ok (.astore_n z, 1)) (hn : (z : Nat) < nL) (hl : ((z : Nat), Value.ref x) :: lv.filter (fun q => !(q.1 == (z : Nat)) && !(q.1 + 1 == (z : Nat) && q.2.category == 2)) = lv') (kk : WJ l E y cc nL ret d mc ms Q k n (pc + 1) lv' (st) I) : WJ l E y cc nL ret d mc ms Q k n (pc) lv (.ref x :: st) I :=
  fun p e s m args below meth c H locs ls A Rp S L => lv_astore_n A.1 A.2.1 hd rfl L hn hl (fun ls L => (kk p e s m args below meth c H locs ls A Rp S L))
theorem j_iinc {z : Nat} {w : Int} {x v : Int32} (q : Nat) (hd : decode cc pc = .ok (.iinc z w, 3)) (hk : lv[q]? = some (z, .int x)) (hv : Int32.ofInt w = v) (hn : z < nL) (hl : (z, Value.int (x + v)) :: lv.filter (fun q => !(q.1 == z) && !(q.1 + 1 == z && q.2.category == 2)) = lv') (kk : WJ l E y cc nL ret d mc ms Q k n (pc + 3) lv' (st) I) : WJ l E y cc nL ret d mc ms Q k n (pc) lv (st) I :=
  fun p e s m args below meth c H locs ls A Rp S L => lv_iinc A.1 A.2.1 hd L hk (by rw [hv]) hn hl (fun ls L => (kk p e s m args below meth c H locs ls A Rp S L))
theorem j_iadd {x y' : Int32} (hd : decode cc pc = .ok (.iadd, 1)) (kk : WJ l E y cc nL ret d mc ms Q k n (pc + 1) lv (.int (x + y') :: st) I) : WJ l E y cc nL ret d mc ms Q k n (pc) lv (.int y' :: .int x :: st) I :=
  fun p e s m args below meth c H locs ls A Rp S L => lv_iadd A.1 A.2.1 hd (kk p e s m args below meth c H locs ls A Rp S L)
theorem j_isub {x y' : Int32} (hd : decode cc pc = .ok (.isub, 1)) (kk : WJ l E y cc nL ret d mc ms Q k n (pc + 1) lv (.int (x - y') :: st) I) : WJ l E y cc nL ret d mc ms Q k n (pc) lv (.int y' :: .int x :: st) I :=
  fun p e s m args below meth c H locs ls A Rp S L => lv_isub A.1 A.2.1 hd (kk p e s m args below meth c H locs ls A Rp S L)
theorem j_imul {x y' : Int32} (hd : decode cc pc = .ok (.imul, 1)) (kk : WJ l E y cc nL ret d mc ms Q k n (pc + 1) lv (.int (x * y') :: st) I) : WJ l E y cc nL ret d mc ms Q k n (pc) lv (.int y' :: .int x :: st) I :=
  fun p e s m args below meth c H locs ls A Rp S L => lv_imul A.1 A.2.1 hd (kk p e s m args below meth c H locs ls A Rp S L)
theorem j_iand {x y' : Int32} (hd : decode cc pc = .ok (.iand, 1)) (kk : WJ l E y cc nL ret d mc ms Q k n (pc + 1) lv (.int (x &&& y') :: st) I) : WJ l E y cc nL ret d mc ms Q k n (pc) lv (.int y' :: .int x :: st) I :=
  fun p e s m args below meth c H locs ls A Rp S L => lv_iand A.1 A.2.1 hd (kk p e s m args below meth c H locs ls A Rp S L)
theorem j_ishl {x y' : Int32} (hd : decode cc pc = .ok (.ishl, 1)) (kk : WJ l E y cc nL ret d mc ms Q k n (pc + 1) lv (.int (x <<< (y' &&& 31)) :: st) I) : WJ l E y cc nL ret d mc ms Q k n (pc) lv (.int y' :: .int x :: st) I :=
  fun p e s m args below meth c H locs ls A Rp S L => lv_ishl A.1 A.2.1 hd (kk p e s m args below meth c H locs ls A Rp S L)
theorem j_ishr {x y' : Int32} (hd : decode cc pc = .ok (.ishr, 1)) (kk : WJ l E y cc nL ret d mc ms Q k n (pc + 1) lv (.int (x >>> (y' &&& 31)) :: st) I) : WJ l E y cc nL ret d mc ms Q k n (pc) lv (.int y' :: .int x :: st) I :=
  fun p e s m args below meth c H locs ls A Rp S L => lv_ishr A.1 A.2.1 hd (kk p e s m args below meth c H locs ls A Rp S L)
theorem j_idiv {x y' : Int32} (hd : decode cc pc = .ok (.idiv, 1)) (hne : ¬ y' = 0) (kk : WJ l E y cc nL ret d mc ms Q k n (pc + 1) lv (.int (x / y') :: st) I) : WJ l E y cc nL ret d mc ms Q k n (pc) lv (.int y' :: .int x :: st) I :=
  fun p e s m args below meth c H locs ls A Rp S L => lv_idiv A.1 A.2.1 hd hne (kk p e s m args below meth c H locs ls A Rp S L)
theorem j_lshr {x : Int64} {y' : Int32} (hd : decode cc pc = .ok (.lshr, 1)) (kk : WJ l E y cc nL ret d mc ms Q k n (pc + 1) lv ((.long (x >>> (y'.toInt64 &&& 63))) :: st) I) : WJ l E y cc nL ret d mc ms Q k n (pc) lv (.int y' :: .long x :: st) I :=
  fun p e s m args below meth c H locs ls A Rp S L => lv_lshr A.1 A.2.1 hd rfl (kk p e s m args below meth c H locs ls A Rp S L)
theorem j_l2i {x : Int64} (hd : decode cc pc = .ok (.l2i, 1)) (kk : WJ l E y cc nL ret d mc ms Q k n (pc + 1) lv (.int x.toInt32 :: st) I) : WJ l E y cc nL ret d mc ms Q k n (pc) lv (.long x :: st) I :=
  fun p e s m args below meth c H locs ls A Rp S L => lv_l2i A.1 A.2.1 hd rfl (kk p e s m args below meth c H locs ls A Rp S L)
theorem j_i2b {x : Int32} (hd : decode cc pc = .ok (.i2b, 1)) (kk : WJ l E y cc nL ret d mc ms Q k n (pc + 1) lv (.int x.toInt8.toInt32 :: st) I) : WJ l E y cc nL ret d mc ms Q k n (pc) lv (.int x :: st) I :=
  fun p e s m args below meth c H locs ls A Rp S L => lv_i2b A.1 A.2.1 hd rfl (kk p e s m args below meth c H locs ls A Rp S L)
theorem j_i2c {x : Int32} (hd : decode cc pc = .ok (.i2c, 1)) (kk : WJ l E y cc nL ret d mc ms Q k n (pc + 1) lv (.int (x.toUInt32 % 65536).toInt32 :: st) I) : WJ l E y cc nL ret d mc ms Q k n (pc) lv (.int x :: st) I :=
  fun p e s m args below meth c H locs ls A Rp S L => lv_i2c A.1 A.2.1 hd rfl (kk p e s m args below meth c H locs ls A Rp S L)
theorem j_dup {va : Value} (hd : decode cc pc = .ok (.dup, 1)) (hva : va.category = 1) (kk : WJ l E y cc nL ret d mc ms Q k n (pc + 1) lv (va :: va :: st) I) : WJ l E y cc nL ret d mc ms Q k n (pc) lv (va :: st) I :=
  fun p e s m args below meth c H locs ls A Rp S L => lv_dup A.1 A.2.1 hd hva (kk p e s m args below meth c H locs ls A Rp S L)
theorem j_pop {va : Value} (hd : decode cc pc = .ok (.pop, 1)) (hva : va.category = 1) (kk : WJ l E y cc nL ret d mc ms Q k n (pc + 1) lv (st) I) : WJ l E y cc nL ret d mc ms Q k n (pc) lv (va :: st) I :=
  fun p e s m args below meth c H locs ls A Rp S L => lv_pop A.1 A.2.1 hd hva (kk p e s m args below meth c H locs ls A Rp S L)
theorem j_dup_x1 {va vb : Value} (hd : decode cc pc = .ok (.dup_x1, 1)) (hva : va.category = 1) (hvb : vb.category = 1) (kk : WJ l E y cc nL ret d mc ms Q k n (pc + 1) lv (va :: vb :: va :: st) I) : WJ l E y cc nL ret d mc ms Q k n (pc) lv (va :: vb :: st) I :=
  fun p e s m args below meth c H locs ls A Rp S L => lv_dup_x1 A.1 A.2.1 hd hva hvb (kk p e s m args below meth c H locs ls A Rp S L)
theorem j_goto {off : Int} (tgt : Nat) (hd : decode cc pc = .ok (.goto off, 3)) (ht : (pc : Int) + off = (tgt : Int)) (kk : WJ l E y cc nL ret d mc ms Q k n (tgt) lv (st) I) : WJ l E y cc nL ret d mc ms Q k n (pc) lv (st) I :=
  fun p e s m args below meth c H locs ls A Rp S L => lv_goto A.1 A.2.1 hd ht (kk p e s m args below meth c H locs ls A Rp S L)
theorem j_ineg {x : Int32} (hd : decode cc pc = .ok (.ineg, 1)) (kk : WJ l E y cc nL ret d mc ms Q k n (pc + 1) lv (.int (-x) :: st) I) : WJ l E y cc nL ret d mc ms Q k n pc lv (.int x :: st) I :=
  fun p e s m args below meth c H locs ls A Rp S L => lv_ineg A.1 A.2.1 hd (kk p e s m args below meth c H locs ls A Rp S L)
theorem j_ifnonnull {x : Nat} {off : Int} (tgt : Nat) (hd : decode cc pc = .ok (.ifnonnull off, 3)) (ht : (pc : Int) + off = (tgt : Int)) (kk : WJ l E y cc nL ret d mc ms Q k n tgt lv st I) : WJ l E y cc nL ret d mc ms Q k n pc lv (.ref x :: st) I :=
  fun p e s m args below meth c H locs ls A Rp S L => lv_ifnonnull A.1 A.2.1 hd ht (kk p e s m args below meth c H locs ls A Rp S L)
theorem j_imp (h : ∀ H, I H → I' H) (kk : WJ l E y cc nL ret d mc ms Q k n pc lv st I') : WJ l E y cc nL ret d mc ms Q k n pc lv st I :=
  fun p e s m args below meth c H locs ls A Rp S L => kk p e s m args below meth c H locs ls A (h H Rp) S L
theorem j_ex {α : Type} {J : α → Heap → Prop} (kk : ∀ x, WJ l E y cc nL ret d mc ms Q k n pc lv st (J x)) : WJ l E y cc nL ret d mc ms Q k n pc lv st (fun H => ∃ x, J x H) :=
  fun p e s m args below meth c H locs ls A Rp S L => Rp.elim (fun x hx => kk x p e s m args below meth c H locs ls A hx S L)
theorem j_pure {P : Prop} (kk : P → WJ l E y cc nL ret d mc ms Q k n pc lv st I) : WJ l E y cc nL ret d mc ms Q k n pc lv st (fun H => P ∧ I H) :=
  fun p e s m args below meth c H locs ls A Rp S L => kk Rp.1 p e s m args below meth c H locs ls A Rp.2 S L
theorem j_intI {x x' : Int32} (h : x = x') (kk : WJ l E y cc nL ret d mc ms Q k n pc lv (.int x' :: st) I) : WJ l E y cc nL ret d mc ms Q k n pc lv (.int x :: st) I := by
  rw [h]
  exact kk
theorem j_widen {k' n' : Nat} (hk : k ≤ k') (hn : n ≤ n') (kk : WJ l E y cc nL ret d mc ms Q k' n' pc lv st I) : WJ l E y cc nL ret d mc ms Q k n pc lv st I :=
  fun p e s m args below meth c H locs ls A Rp S L => W.widen hk hn (kk p e s m args below meth c H locs ls A Rp S L)
theorem j_if_eq {x : Int32} {off : Int} (tgt : Nat) (hd : decode cc pc = .ok (.ifCond .eq off, 3)) (ht : (pc : Int) + off = (tgt : Int)) (kt : x = 0 → WJ l E y cc nL ret d mc ms Q k n tgt lv st I) (kf : ¬ x = 0 → WJ l E y cc nL ret d mc ms Q k n (pc + 3) lv st I) : WJ l E y cc nL ret d mc ms Q k n pc lv (.int x :: st) I :=
  fun p e s m args below meth c H locs ls A Rp S L => lv_if_eq A.1 A.2.1 hd ht (fun q => kt q p e s m args below meth c H locs ls A Rp S L) (fun q => kf q p e s m args below meth c H locs ls A Rp S L)
theorem j_if_ne {x : Int32} {off : Int} (tgt : Nat) (hd : decode cc pc = .ok (.ifCond .ne off, 3)) (ht : (pc : Int) + off = (tgt : Int)) (kt : ¬ x = 0 → WJ l E y cc nL ret d mc ms Q k n tgt lv st I) (kf : x = 0 → WJ l E y cc nL ret d mc ms Q k n (pc + 3) lv st I) : WJ l E y cc nL ret d mc ms Q k n pc lv (.int x :: st) I :=
  fun p e s m args below meth c H locs ls A Rp S L => lv_if_ne A.1 A.2.1 hd ht (fun q => kt q p e s m args below meth c H locs ls A Rp S L) (fun q => kf q p e s m args below meth c H locs ls A Rp S L)
theorem j_if_lt {x : Int32} {off : Int} (tgt : Nat) (hd : decode cc pc = .ok (.ifCond .lt off, 3)) (ht : (pc : Int) + off = (tgt : Int)) (kt : x < 0 → WJ l E y cc nL ret d mc ms Q k n tgt lv st I) (kf : ¬ x < 0 → WJ l E y cc nL ret d mc ms Q k n (pc + 3) lv st I) : WJ l E y cc nL ret d mc ms Q k n pc lv (.int x :: st) I :=
  fun p e s m args below meth c H locs ls A Rp S L => lv_if_lt A.1 A.2.1 hd ht (fun q => kt q p e s m args below meth c H locs ls A Rp S L) (fun q => kf q p e s m args below meth c H locs ls A Rp S L)
theorem j_if_ge {x : Int32} {off : Int} (tgt : Nat) (hd : decode cc pc = .ok (.ifCond .ge off, 3)) (ht : (pc : Int) + off = (tgt : Int)) (kt : 0 ≤ x → WJ l E y cc nL ret d mc ms Q k n tgt lv st I) (kf : ¬ 0 ≤ x → WJ l E y cc nL ret d mc ms Q k n (pc + 3) lv st I) : WJ l E y cc nL ret d mc ms Q k n pc lv (.int x :: st) I :=
  fun p e s m args below meth c H locs ls A Rp S L => lv_if_ge A.1 A.2.1 hd ht (fun q => kt q p e s m args below meth c H locs ls A Rp S L) (fun q => kf q p e s m args below meth c H locs ls A Rp S L)
theorem j_if_le {x : Int32} {off : Int} (tgt : Nat) (hd : decode cc pc = .ok (.ifCond .le off, 3)) (ht : (pc : Int) + off = (tgt : Int)) (kt : x ≤ 0 → WJ l E y cc nL ret d mc ms Q k n tgt lv st I) (kf : ¬ x ≤ 0 → WJ l E y cc nL ret d mc ms Q k n (pc + 3) lv st I) : WJ l E y cc nL ret d mc ms Q k n pc lv (.int x :: st) I :=
  fun p e s m args below meth c H locs ls A Rp S L => lv_if_le A.1 A.2.1 hd ht (fun q => kt q p e s m args below meth c H locs ls A Rp S L) (fun q => kf q p e s m args below meth c H locs ls A Rp S L)
theorem j_if_gt {x : Int32} {off : Int} (tgt : Nat) (hd : decode cc pc = .ok (.ifCond .gt off, 3)) (ht : (pc : Int) + off = (tgt : Int)) (kt : 0 < x → WJ l E y cc nL ret d mc ms Q k n tgt lv st I) (kf : ¬ 0 < x → WJ l E y cc nL ret d mc ms Q k n (pc + 3) lv st I) : WJ l E y cc nL ret d mc ms Q k n pc lv (.int x :: st) I :=
  fun p e s m args below meth c H locs ls A Rp S L => lv_if_gt A.1 A.2.1 hd ht (fun q => kt q p e s m args below meth c H locs ls A Rp S L) (fun q => kf q p e s m args below meth c H locs ls A Rp S L)
theorem j_icmp_eq {x y' : Int32} {off : Int} (tgt : Nat) (hd : decode cc pc = .ok (.if_icmp .eq off, 3)) (ht : (pc : Int) + off = (tgt : Int)) (kt : x = y' → WJ l E y cc nL ret d mc ms Q k n tgt lv st I) (kf : ¬ x = y' → WJ l E y cc nL ret d mc ms Q k n (pc + 3) lv st I) : WJ l E y cc nL ret d mc ms Q k n pc lv (.int y' :: .int x :: st) I :=
  fun p e s m args below meth c H locs ls A Rp S L => lv_icmp_eq A.1 A.2.1 hd ht (fun q => kt q p e s m args below meth c H locs ls A Rp S L) (fun q => kf q p e s m args below meth c H locs ls A Rp S L)
theorem j_icmp_ne {x y' : Int32} {off : Int} (tgt : Nat) (hd : decode cc pc = .ok (.if_icmp .ne off, 3)) (ht : (pc : Int) + off = (tgt : Int)) (kt : ¬ x = y' → WJ l E y cc nL ret d mc ms Q k n tgt lv st I) (kf : x = y' → WJ l E y cc nL ret d mc ms Q k n (pc + 3) lv st I) : WJ l E y cc nL ret d mc ms Q k n pc lv (.int y' :: .int x :: st) I :=
  fun p e s m args below meth c H locs ls A Rp S L => lv_icmp_ne A.1 A.2.1 hd ht (fun q => kt q p e s m args below meth c H locs ls A Rp S L) (fun q => kf q p e s m args below meth c H locs ls A Rp S L)
theorem j_icmp_lt {x y' : Int32} {off : Int} (tgt : Nat) (hd : decode cc pc = .ok (.if_icmp .lt off, 3)) (ht : (pc : Int) + off = (tgt : Int)) (kt : x < y' → WJ l E y cc nL ret d mc ms Q k n tgt lv st I) (kf : ¬ x < y' → WJ l E y cc nL ret d mc ms Q k n (pc + 3) lv st I) : WJ l E y cc nL ret d mc ms Q k n pc lv (.int y' :: .int x :: st) I :=
  fun p e s m args below meth c H locs ls A Rp S L => lv_icmp_lt A.1 A.2.1 hd ht (fun q => kt q p e s m args below meth c H locs ls A Rp S L) (fun q => kf q p e s m args below meth c H locs ls A Rp S L)
theorem j_icmp_ge {x y' : Int32} {off : Int} (tgt : Nat) (hd : decode cc pc = .ok (.if_icmp .ge off, 3)) (ht : (pc : Int) + off = (tgt : Int)) (kt : y' ≤ x → WJ l E y cc nL ret d mc ms Q k n tgt lv st I) (kf : ¬ y' ≤ x → WJ l E y cc nL ret d mc ms Q k n (pc + 3) lv st I) : WJ l E y cc nL ret d mc ms Q k n pc lv (.int y' :: .int x :: st) I :=
  fun p e s m args below meth c H locs ls A Rp S L => lv_icmp_ge A.1 A.2.1 hd ht (fun q => kt q p e s m args below meth c H locs ls A Rp S L) (fun q => kf q p e s m args below meth c H locs ls A Rp S L)
theorem j_icmp_le {x y' : Int32} {off : Int} (tgt : Nat) (hd : decode cc pc = .ok (.if_icmp .le off, 3)) (ht : (pc : Int) + off = (tgt : Int)) (kt : x ≤ y' → WJ l E y cc nL ret d mc ms Q k n tgt lv st I) (kf : ¬ x ≤ y' → WJ l E y cc nL ret d mc ms Q k n (pc + 3) lv st I) : WJ l E y cc nL ret d mc ms Q k n pc lv (.int y' :: .int x :: st) I :=
  fun p e s m args below meth c H locs ls A Rp S L => lv_icmp_le A.1 A.2.1 hd ht (fun q => kt q p e s m args below meth c H locs ls A Rp S L) (fun q => kf q p e s m args below meth c H locs ls A Rp S L)
theorem j_icmp_gt {x y' : Int32} {off : Int} (tgt : Nat) (hd : decode cc pc = .ok (.if_icmp .gt off, 3)) (ht : (pc : Int) + off = (tgt : Int)) (kt : y' < x → WJ l E y cc nL ret d mc ms Q k n tgt lv st I) (kf : ¬ y' < x → WJ l E y cc nL ret d mc ms Q k n (pc + 3) lv st I) : WJ l E y cc nL ret d mc ms Q k n pc lv (.int y' :: .int x :: st) I :=
  fun p e s m args below meth c H locs ls A Rp S L => lv_icmp_gt A.1 A.2.1 hd ht (fun q => kt q p e s m args below meth c H locs ls A Rp S L) (fun q => kf q p e s m args below meth c H locs ls A Rp S L)
theorem j_ireturn {v : Int32} (hd : decode cc pc = .ok (.ireturn, 1)) (hr : ret = some .int) (hq : ∀ H, I H → Q (some (.int v)) H) (hk : k ≤ mc) (hn : n ≤ ms) : WJ l E y cc nL ret d mc ms Q k n pc lv [.int v] I := by
  intro p e s m args below meth c H locs ls A Rp S L
  exact W.widen hk hn (W.iret A.1 A.2.1 (A.2.2.2.2.2.1.trans hr) (fun t ht hW => ⟨⟨_, rfl, by rw [ht]; exact hq H Rp⟩, S.F ht⟩) S.2.2 hd A.2.2.2.2.2.2.1)
theorem j_zreturn {v : Int32} {ty : FieldType} (hd : decode cc pc = .ok (.ireturn, 1)) (hr : ret = some ty) (hb : narrow ty (.int v) = .int v) (hq : ∀ H, I H → Q (some (.int v)) H) (hk : k ≤ mc) (hn : n ≤ ms) : WJ l E y cc nL ret d mc ms Q k n pc lv [.int v] I := by
  intro p e s m args below meth c H locs ls A Rp S L
  exact W.widen hk hn (W.zret A.1 A.2.1 (A.2.2.2.2.2.1.trans hr) hb (fun t ht hW => ⟨⟨_, rfl, by rw [ht]; exact hq H Rp⟩, S.F ht⟩) S.2.2 hd A.2.2.2.2.2.2.1)
theorem j_return (hd : decode cc pc = .ok (.return_, 1)) (hr : ret = none) (hq : ∀ H, I H → Q none H) (hk : k ≤ mc) (hn : n ≤ ms) : WJ l E y cc nL ret d mc ms Q k n pc lv [] I := by
  intro p e s m args below meth c H locs ls A Rp S L
  exact W.widen hk hn (W.vret A.1 A.2.1 (A.2.2.2.2.2.1.trans hr) (fun t ht hW => ⟨⟨_, rfl, by rw [ht]; exact hq H Rp⟩, S.F ht⟩) S.2.2 hd A.2.2.2.2.2.2.1)
theorem j_areturn {b : Nat} {rt : FieldType} (hd : decode cc pc = .ok (.areturn, 1)) (hr : ret = some rt) (hrt : (∃ n, rt = .object n) ∨ ∃ t, rt = .array t) (hq : ∀ H, I H → Q (some (.ref b)) H) (hk : k ≤ mc) (hn : n ≤ ms) : WJ l E y cc nL ret d mc ms Q k n pc lv [.ref b] I := by
  intro p e s m args below meth c H locs ls A Rp S L
  exact W.widen hk hn (W.aret A.1 A.2.1 (A.2.2.2.2.2.1.trans hr) hrt (Or.inr ⟨b, rfl⟩) (fun t ht hW => ⟨⟨_, rfl, by rw [ht]; exact hq H Rp⟩, S.F ht⟩) S.2.2 hd A.2.2.2.2.2.2.1)
theorem j_get {a : Nat} {fs : List Value} {index ci j t : Nat} {fty : FieldType} {fin : Bool} {v : Value} (hd : decode cc pc = .ok (.getfield index, 3)) (F : FD y.cls index ci j t fty fin) (hI : ∀ H, I H → va_at E.1.2.2.1 vwCl (a, .inr (ci, fs)) H) (hv : fs[j]? = some v) (kk : WJ l E y cc nL ret d mc ms Q k n (pc + 3) lv (v :: st) I) : WJ l E y cc nL ret d mc ms Q k n pc lv (.ref a :: st) I := by
  intro p e s m args below meth c H locs ls A Rp S L
  obtain ⟨C, T, N, ty, hc, hN, hin, hty, hnm, hj, hkt, htj, hfin, hlink⟩ := F
  have hts : ∀ w ∈ gw, w.before args s = true := fun w h => A.2.2.2.2.1 w (List.mem_cons_of_mem _ h)
  exact va_get (ci := ci) (C := C) (T := T) (N := N) A.1 A.2.1 hts hin A.2.2.2.1 A.2.2.2.2.2.2.2.2.1.1 (one_P (hI H Rp)) 0 rfl hc j hj (hts _ hlink) (fun _ h => h) (v := v) hv hd (kk p e s m args below meth c H locs ls A Rp S L)
theorem j_gets {C fn fd : String} {v : Value} {index : Nat} (hd : decode cc pc = .ok (.getstatic index, 3)) (hl : Cond.fieldLink y.cls index C fn fd ∈ gw) (hZ : ∀ s, K9 E s s.heap → va_Z C fn fd v (fun q => E.2.2.1 ≤ q) s s.heap) (kk : WJ l E y cc nL ret d mc ms Q k n (pc + 3) lv (v :: st) I) : WJ l E y cc nL ret d mc ms Q k n pc lv st I :=
  fun p e s m args below meth c H locs ls A Rp S L => va_gets A.1 A.2.1 (hZ s A.2.2.2.2.2.2.2.2.1) (S.nine A.2.2.2.2.2.2.2.1) A.2.2.2.1 (A.2.2.2.2.1 _ (List.mem_cons_of_mem _ hl)) (fun _ h => h) hd (kk p e s m args below meth c H locs ls A Rp S L)
theorem j_getsq {C fn fd : String} {index : Nat} (hd : decode cc pc = .ok (.getstatic index, 3)) (hl : Cond.fieldLink y.cls index C fn fd ∈ gw) (hZ : ∀ s, K9 E s s.heap → va_Zq C fn fd (fun q => E.2.2.1 ≤ q) s s.heap) (kk : ∀ r : Option Nat, WJ l E y cc nL ret d mc ms Q k n (pc + 3) lv (va_rf r :: st) I) : WJ l E y cc nL ret d mc ms Q k n pc lv st I := by
  intro p e s m args below meth c H locs ls A Rp S L
  rcases hZ s A.2.2.2.2.2.2.2.2.1 with h | ⟨t, h⟩
  · exact va_gets A.1 A.2.1 h (S.nine A.2.2.2.2.2.2.2.1) A.2.2.2.1 (A.2.2.2.2.1 _ (List.mem_cons_of_mem _ hl)) (fun _ h => h) hd (kk none p e s m args below meth c H locs ls A Rp S L)
  · exact va_gets A.1 A.2.1 h (S.nine A.2.2.2.2.2.2.2.1) A.2.2.2.1 (A.2.2.2.2.1 _ (List.mem_cons_of_mem _ hl)) (fun _ h => h) hd (kk (some t) p e s m args below meth c H locs ls A Rp S L)
theorem j_getK {q : Nat} {fn fd : String} {v : Value} {index : Nat} (hd : decode cc pc = .ok (.getfield index, 3)) (hl : Cond.fieldLink y.cls index "java/lang/String" fn fd ∈ gw) (hZ : ∀ s, K9 E s s.heap → va_OF "java/lang/String" fn fd v q (fun q => E.2.2.1 ≤ q) s s.heap) (kk : WJ l E y cc nL ret d mc ms Q k n (pc + 3) lv (v :: st) I) : WJ l E y cc nL ret d mc ms Q k n pc lv (.ref q :: st) I :=
  fun p e s m args below meth c H locs ls A Rp S L => vk_getf A.1 A.2.1 (hZ s A.2.2.2.2.2.2.2.2.1) (S.nine A.2.2.2.2.2.2.2.1) A.2.2.2.1 (A.2.2.2.2.1 _ (List.mem_cons_of_mem _ hl)) (fun _ h => h) hd (kk p e s m args below meth c H locs ls A Rp S L)
theorem j_tlen {t N : Nat} {ty : FieldType} {f : Nat → Value} (hd : decode cc pc = .ok (.arraylength, 1)) (hZ : ∀ s, K9 E s s.heap → va_T ty t N f (fun q => E.2.2.1 ≤ q) s s.heap) (kk : WJ l E y cc nL ret d mc ms Q k n (pc + 1) lv (.int (nI N) :: st) I) : WJ l E y cc nL ret d mc ms Q k n pc lv (.ref t :: st) I :=
  fun p e s m args below meth c H locs ls A Rp S L => va_tlen A.1 A.2.1 (hZ s A.2.2.2.2.2.2.2.2.1) (S.nine A.2.2.2.2.2.2.2.1) rfl hd (kk p e s m args below meth c H locs ls A Rp S L)
theorem j_tb {t N : Nat} {f : Nat → Value} {i : Int32} {v : Value} (hd : decode cc pc = .ok (.baload, 1)) (hZ : ∀ s, K9 E s s.heap → va_T .byte t N f (fun q => E.2.2.1 ≤ q) s s.heap) (hin : vp_in i N) (hv : f i.toNatClampNeg = v) (kk : WJ l E y cc nL ret d mc ms Q k n (pc + 1) lv (v :: st) I) : WJ l E y cc nL ret d mc ms Q k n pc lv (.int i :: .ref t :: st) I :=
  fun p e s m args below meth c H locs ls A Rp S L => va_tb A.1 A.2.1 (hZ s A.2.2.2.2.2.2.2.2.1) (S.nine A.2.2.2.2.2.2.2.1) hin hv hd (kk p e s m args below meth c H locs ls A Rp S L)
theorem j_ldcw {i index : Nat} (hd : decode cc pc = .ok (.ldc_w index, 3)) (hi : i < 4) (hx : sIx i = index) (hy : y.cls = "GlassVows") (kk : WJ l E y cc nL ret d mc ms Q k n (pc + 3) lv (.ref (E.2.1.2 i).1 :: st) I) : WJ l E y cc nL ret d mc ms Q k n pc lv st I := by
  intro p e s m args below meth c H locs ls A Rp S L
  subst hx
  have hZ := A.2.2.2.2.2.2.2.2.1.2.2.2.2.2.1 i hi
  have hown : s.vm.findClass "GlassVows" = some m.cls := by rw [← hy]; exact A.2.2.2.1
  intro T hT X
  obtain ⟨t, a1, b1⟩ := kk p e s m args below meth c H locs ls A Rp S L T hT X
  exact ⟨t, X.ldcStringW A.1 hown (text := sTx i) (a := (E.2.1.2 i).1) hZ.1 hZ.2 (g := F0 m pc ls st) rfl (by rw [A.2.1]; exact hd) t a1, b1⟩
theorem j_min {index : Nat} {x y' : Int32} (hd : decode cc pc = .ok (.invokestatic index, 3)) (C : MNd y.cls index) (hst : (st.map fun v => v.category).sum ≤ 8) (hdd : 1 ≤ d) (hk : k ≤ mc) (hn : n ≤ ms) (kk : WJ l E y cc nL ret d mc ms Q k n (pc + 3) lv (.int (mnI x y') :: st) I) : WJ l E y cc nL ret d mc ms Q k n pc lv (.int y' :: .int x :: st) I := by
  intro p e s m args below meth c H locs ls A Rp S L
  have hts : ∀ w ∈ gw, w.before args s = true := fun w h => A.2.2.2.2.1 w (List.mem_cons_of_mem _ h)
  exact va_mmin A.1 A.2.1 (by rw [A.2.2.1, L.1]) A.2.2.2.1 (hts _ C.1) (hts _ C.2.1) (hts _ C.2.2.1) (hts _ C.2.2.2) (show 1 ≤ d from hdd) (by show _ ≤ 41 * d + 32; omega) hk hn hd (kk p e s m args below meth c H locs ls A Rp S L)
theorem j_max {index : Nat} {x y' : Int32} (hd : decode cc pc = .ok (.invokestatic index, 3)) (C : MXd y.cls index) (hst : (st.map fun v => v.category).sum ≤ 8) (hdd : 1 ≤ d) (hk : k ≤ mc) (hn : n ≤ ms) (kk : WJ l E y cc nL ret d mc ms Q k n (pc + 3) lv (.int (mxI x y') :: st) I) : WJ l E y cc nL ret d mc ms Q k n pc lv (.int y' :: .int x :: st) I := by
  intro p e s m args below meth c H locs ls A Rp S L
  have hts : ∀ w ∈ gw, w.before args s = true := fun w h => A.2.2.2.2.1 w (List.mem_cons_of_mem _ h)
  exact va_mmax A.1 A.2.1 (by rw [A.2.2.1, L.1]) A.2.2.2.1 (hts _ C.1) (hts _ C.2.1) (hts _ C.2.2.1) (hts _ C.2.2.2) (show 1 ≤ d from hdd) (by show _ ≤ 41 * d + 32; omega) hk hn hd (kk p e s m args below meth c H locs ls A Rp S L)
theorem cj_blind {As : List Value} : FrameBlind (va_Pc As (fun U => I U.heap ∧ KE E U)) := fun a U g mk q => ⟨q.1, q.2.1, KE.same (u := U) (U := U.calling g mk a) rfl rfl q.2.2⟩
/-- behind a call -/
def Aft (Ow2 : Nat → Prop) (I : Heap → Prop) (Q2 : Option Value → Heap → Prop) (v : Option Value) : Heap → Prop := fun H1 => ∃ H : Heap, I H ∧ Q2 v H1 ∧ H.size ≤ H1.size ∧ ∀ q, q < H.size → ¬ Ow2 q → H1[q]? = H[q]?
theorem j_run {Ow2 : Nat → Prop} {Qc : Array Value → State → Outcome → State → Prop} {Q2 : Option Value → Heap → Prop} {mc2 ms2 : Nat} {aa : Array Value} {st0 : List Value} {p : Program} {e : Env} {s : State} {m : MethodId} {args : Array Value} {below : List Frame} {meth : Method} {c : Code} {H : Heap} {locs : List Loc} {ls : Array Slot}
    (hr : va_Run p l e (rmOf d mc ms) s m args below meth c H locs k n mc2 ms2 (F0 m pc ls st0) st (Qc aa) Ow2) (hQ : ∀ (a0 : State) (v : Option Value) (t : State), Qc aa a0 (.returned v) t → Q2 v t.heap ∧ va_F Ow2 a0 t) (hs : ∀ q, Ow2 q → E.2.2.2.2 q) (A : AJ E y cc nL ret p s m args meth c) (Rp : I H) (S : va_S E.2.2.2.2 s.heap H locs) (L : lv_has ls nL lv)
    (kk : ∀ v, WJ l E y cc nL ret d mc ms Q (k + mc2) (n + ms2) (pc + 3) lv (v.toList ++ st) (Aft Ow2 I Q2 v)) : W p l e (rmOf d mc ms) s m args below meth c H locs k n (MQ below (QJ E.2.2.2.2 Q) args s mc ms E.2.2.2.2) (F0 m pc ls st0) := by
  intro T hT X
  obtain ⟨v, st₀, t, T', L2, h0, X', hL, e1, e2, hq, st⟩ := hr T hT X
  obtain ⟨hb, hz, hk⟩ := hQ _ _ _ hq
  rw [h0] at hz hk
  obtain ⟨t2, a1, b1⟩ := kk v p e s m args below meth c T'.heap (locs ++ L2) ls A (by rw [e1]; exact ⟨H, Rp, hb, hz, hk⟩)
    ⟨Nat.le_trans S.1 (by rw [e1]; exact hz), fun q h1 h2 => by rw [e1, hk q (Nat.lt_of_lt_of_le h1 S.1) (fun w => h2 (hs q w))]; exact S.2.1 q h1 h2, fun q hq => by
      rcases List.mem_append.mp hq with h | h
      · exact S.2.2 q h
      · exact hs _ (hL q h)⟩ L T' rfl X'
  exact ⟨t2, st t2 a1, b1⟩
theorem qj_get {Ow2 : Nat → Prop} {Q2 : Option Value → Heap → Prop} {aa : Array Value} (a0 : State) (v : Option Value) (t : State) (h : QJ Ow2 Q2 aa a0 (.returned v) t) : Q2 v t.heap ∧ va_F Ow2 a0 t := by
  obtain ⟨⟨v2, hv, hq⟩, hf⟩ := h
  cases hv
  exact ⟨hq, hf⟩
/-- what a call's receiver is -/
def Rcv (E : ee) (I : Heap → Prop) (a : Nat) (C : String) : Prop := ∀ (s : State) (H : Heap) (locs : List Loc), EOK E → KE E s → I H → va_S E.2.2.2.2 s.heap H locs → ∃ cellB : Cell, H[a]? = some cellB ∧ cellB.vm.isStatics = false ∧ s.vm.findClass C = some cellB.cls
theorem j_callV {a index : Nat} {y2 : MethodName} {cc2 : ByteArray} {nL2 np d2 mc2 ms2 : Nat} {ret2 : Option FieldType} (As : List Value) {As' : List Value} {O2 : Nat → Prop} {I2 : Heap → Prop} {Q2 : Option Value → Heap → Prop} (hd : decode cc pc = .ok (.invokevirtual index, 3)) (C : CVd y.cls index y2 cc2 nL2 ret2 np) (hrc : Rcv E I a y2.cls) (hn : As.length = np) (has : As.reverse ++ .ref a :: st = As') (hst : (st.map fun v => v.category).sum ≤ 8) (hdd : d2 + 1 ≤ d) (hm1 : k + mc2 ≤ mc) (hm2 : n + ms2 ≤ ms)
    (hM : CJ l (setE E O2) y2 cc2 nL2 ret2 d2 mc2 ms2 (.ref a :: As) I2 Q2) (hI : ∀ H, I H → I2 H) (hO : ∀ q, O2 q → E.2.2.2.2 q) (kk : ∀ v, WJ l E y cc nL ret d mc ms Q (k + mc2) (n + ms2) (pc + 3) lv (v.toList ++ st) (Aft O2 I Q2 v)) : WJ l E y cc nL ret d mc ms Q k n pc lv As' I := by
  intro p e s m args below meth c H locs ls A Rp S L
  obtain ⟨c1, c2, c3, c4, c5, c6, c7⟩ := C
  subst has
  refine j_run (aa := (Value.ref a :: As).toArray) (va_runV (Ts := Cond.code y cc nL ret :: gw) (C := y2.cls) (As := As) ⟨A.1, A.2.1, A.2.2.1, A.2.2.2.1, A.2.2.2.2.1⟩ hM (cwV np A.2.2.2.2.1 (gi_gw (w1 := wsV y.cls index y2.cls y2 (Cond.code y2 cc2 nL2 ret2 :: gw)) (fun w hw => ?_)) rfl rfl rfl ⟨rfl, c7⟩ ⟨?_, ?_⟩) ⟨cj_blind, hrc s H locs A.2.2.2.2.2.2.2.1 A.2.2.2.2.2.2.2.2 Rp S, fun U hU hW => ⟨rfl, by rw [hU]; exact hI H Rp, KE.set (KE.at A.2.2.2.2.2.2.2.2 A.2.2.2.2.2.2.2.1 S hU hW)⟩⟩ rfl hn L.1 rfl (lv_room hst) hd ⟨hm1, hm2⟩) qj_get hO A Rp S L kk
  · simp only [wsV, List.cons_append, List.nil_append, List.mem_cons] at hw
    rcases hw with rfl | rfl | rfl | rfl | rfl | h
    · exact c1
    · exact c2
    · exact c3
    · exact c4
    · exact c5
    · exact h
  · exact hdd
  · show 8 + (nL2 + 11) + (41 * d2 + 32) ≤ 41 * d + 32
    omega
theorem j_callS {index : Nat} {y2 : MethodName} {cc2 : ByteArray} {nL2 np d2 mc2 ms2 : Nat} {ret2 : Option FieldType} (As : List Value) {As' : List Value} {O2 : Nat → Prop} {I2 : Heap → Prop} {Q2 : Option Value → Heap → Prop} (hd : decode cc pc = .ok (.invokestatic index, 3)) (C : CSd y.cls index y2 cc2 nL2 ret2 np) (hn : As.length = np) (has : As.reverse ++ st = As') (hst : (st.map fun v => v.category).sum ≤ 8) (hdd : d2 + 1 ≤ d) (hm1 : k + mc2 ≤ mc) (hm2 : n + ms2 ≤ ms)
    (hM : CJ l (setE E O2) y2 cc2 nL2 ret2 d2 mc2 ms2 As I2 Q2) (hI : ∀ H, I H → I2 H) (hO : ∀ q, O2 q → E.2.2.2.2 q) (kk : ∀ v, WJ l E y cc nL ret d mc ms Q (k + mc2) (n + ms2) (pc + 3) lv (v.toList ++ st) (Aft O2 I Q2 v)) : WJ l E y cc nL ret d mc ms Q k n pc lv As' I := by
  intro p e s m args below meth c H locs ls A Rp S L
  obtain ⟨c1, c2, c3, c4, c5, c6⟩ := C
  subst has
  have hts := A.2.2.2.2.1
  refine j_run (aa := As.toArray) (va_runS (Ts := Cond.code y cc nL ret :: gw) (As := As) ⟨A.1, A.2.1, A.2.2.1, A.2.2.2.1, hts⟩ hM ⟨callB_of np hts (gi_gw (fun w hw => ?_)) rfl rfl rfl (hts _ (List.mem_cons_of_mem _ c3)) (hts _ (List.mem_cons_of_mem _ c1)) c6 ⟨?_, ?_⟩, hts _ (List.mem_cons_of_mem _ c2)⟩ ⟨cj_blind, fun U hU hW => ⟨rfl, by rw [hU]; exact hI H Rp, KE.set (KE.at A.2.2.2.2.2.2.2.2 A.2.2.2.2.2.2.2.1 S hU hW)⟩⟩ rfl hn L.1 rfl (lv_room hst) hd ⟨hm1, hm2⟩) qj_get hO A Rp S L kk
  · rcases List.mem_cons.mp hw with rfl | h
    · exact c4
    · exact h
  · exact hdd
  · show 8 + (nL2 + 11) + (41 * d2 + 32) ≤ 41 * d + 32
    omega
/-- a method of AbstractStringBuilder, called on a StringBuilder; 'selects' out of the tables, or since it is private -/
def CUb (index : Nat) (y2 : MethodName) (cc2 : ByteArray) (nL2 : Nat) (ret2 : Option FieldType) (np : Nat) : Prop := (∀ w ∈ ([.methodLink RJ5 index y2, .sameMethod RJ5 RJ5 y2.name y2.desc, .instanceMethod y2, .initialized RJ5, .code y2 cc2 nL2 ret2] : List Cond), w ∈ gw) ∧ (Cond.selects RJ4 y2 y2 ∈ gw ∨ y2 ∈ kpl) ∧ nL2 ≤ 22 ∧ y2.cls = RJ5 ∧ (parseMethodDescriptor y2.desc).map (fun d => d.parameters.length) = some np
theorem sel_priv {y2 : MethodName} {s : State} {args : Array Value} (hy : y2.cls ≠ "java/lang/invoke/MethodHandle" ∧ y2.cls ≠ "java/lang/invoke/VarHandle") (hins : (Cond.instantiable RJ4 4).before args s = true) (hpriv : (Cond.privateMethod y2).before args s = true) (hinst : (Cond.instanceMethod y2).before args s = true) (hsame : (Cond.sameMethod y2.cls y2.cls y2.name y2.desc).before args s = true) : (Cond.selects RJ4 y2 y2).before args s = true := by
  obtain ⟨c, k, hc, hk, -, hniab, -, -⟩ := Cond.instantiable_spec hins
  have hni : k.isInterface = false := (Bool.or_eq_false_iff.mp hniab).1
  obtain ⟨mk, methM, hnamed, hmethM, -, -⟩ := Cond.instanceMethod_spec hinst
  have hfound : s.methodFound? y2.cls y2.name y2.desc = some mk := State.methodFound?_of_named hnamed hy
  have hsel : selectMethod {} s.vm c mk = .method mk := selectMethod_private hmethM (Cond.privateMethod_at hpriv mk methM hnamed hmethM)
  obtain ⟨-, k5, hk5, hni5⟩ := Cond.sameMethod_spec (findClass_of_methodNamed hnamed) hfound hsame
  simp only [Cond.before, Cond.holds, Cond.value, hc, hfound, hnamed, hsel, hk5]
  simp; exact hni5
theorem j_callU {a index : Nat} {y2 : MethodName} {cc2 : ByteArray} {nL2 np d2 mc2 ms2 : Nat} {ret2 : Option FieldType} (As : List Value) {As' : List Value} {O2 : Nat → Prop} {I2 : Heap → Prop} {Q2 : Option Value → Heap → Prop} (hd : decode cc pc = .ok (.invokevirtual index, 3)) (hy : y.cls = RJ5) (C : CUb index y2 cc2 nL2 ret2 np) (hrc : Rcv E I a RJ4) (hn : As.length = np) (has : As.reverse ++ .ref a :: st = As') (hst : (st.map fun v => v.category).sum ≤ 8) (hdd : d2 + 1 ≤ d) (hm1 : k + mc2 ≤ mc) (hm2 : n + ms2 ≤ ms)
    (hM : CJ l (setE E O2) y2 cc2 nL2 ret2 d2 mc2 ms2 (.ref a :: As) I2 Q2) (hI : ∀ H, I H → I2 H) (hO : ∀ q, O2 q → E.2.2.2.2 q) (kk : ∀ v, WJ l E y cc nL ret d mc ms Q (k + mc2) (n + ms2) (pc + 3) lv (v.toList ++ st) (Aft O2 I Q2 v)) : WJ l E y cc nL ret d mc ms Q k n pc lv As' I := by
  intro p e s m args below meth c H locs ls A Rp S L
  obtain ⟨c1, c2, c3, c4, c5⟩ := C
  subst has
  have hts := A.2.2.2.2.1
  have ok : ∀ w ∈ ([.methodLink RJ5 index y2, .sameMethod RJ5 RJ5 y2.name y2.desc, .instanceMethod y2, .initialized RJ5, .code y2 cc2 nL2 ret2] : List Cond), w.before args s = true := fun w hw => hts w (List.mem_cons_of_mem _ (c1 w hw))
  have hG : GoodIn (Cond.code y cc nL ret :: gw) (Cond.code y2 cc2 nL2 ret2 :: gw) := gi_gw (fun w hw => by
    rcases List.mem_cons.mp hw with rfl | h
    · exact c1 _ (by simp)
    · exact h)
  have hne : y2.cls ≠ "java/lang/invoke/MethodHandle" ∧ y2.cls ≠ "java/lang/invoke/VarHandle" := by
    rw [c4]
    exact ⟨by decide, by decide⟩
  have hsel : (Cond.selects RJ4 y2 y2).before args s = true := by
    rcases c2 with h | h
    · exact hts _ (List.mem_cons_of_mem _ h)
    · exact va_Nw.use rfl (A.2.2.2.2.2.2.2.2.1.2.2.2.2.2.2 y2 h)
  have hyy : y2 = ⟨RJ5, y2.name, y2.desc⟩ := by
    rw [← c4]
  have hdecl : va_Decl s ⟨RJ5, y2.name, y2.desc⟩ := by
    rw [← hyy]
    exact va_Decl.of (ok (.instanceMethod y2) (by simp)) (ok (.code y2 cc2 nL2 ret2) (by simp))
  have hcu : va_CU (rmOf d mc ms) s args y.cls RJ4 RJ5 index y2 y2 cc2 nL2 ret2 (Cond.code y2 cc2 nL2 ret2 :: gw) (rmOf d2 mc2 ms2) mc2 ms2 np := by
    refine ⟨⟨rfl, rfl, hdd, ?_, pay_in hts hG, List.mem_cons_self⟩, ok (.code y2 cc2 nL2 ret2) (by simp), by rw [c4]; exact ok (.initialized RJ5) (by simp), ⟨by decide, by decide⟩, fun sig h => ?_, by rw [hy]; exact ok (.methodLink RJ5 index y2) (by simp), by rw [c4]; exact ok (.sameMethod RJ5 RJ5 y2.name y2.desc) (by simp), hdecl, hsel, ok (.instanceMethod y2) (by simp)⟩
    · show 8 + (nL2 + 11) + (41 * d2 + 32) ≤ 41 * d + 32
      omega
    · rw [h] at c5
      exact (Option.some.inj c5).symm
  exact j_run (aa := (Value.ref a :: As).toArray) (va_runU (Ts := Cond.code y cc nL ret :: gw) (C := RJ4) (owner := RJ5) (x := y2) (As := As) ⟨A.1, A.2.1, A.2.2.1, A.2.2.2.1, A.2.2.2.2.1⟩ hM hcu ⟨cj_blind, hrc s H locs A.2.2.2.2.2.2.2.1 A.2.2.2.2.2.2.2.2 Rp S, fun U hU hW => ⟨rfl, by rw [hU]; exact hI H Rp, KE.set (KE.at A.2.2.2.2.2.2.2.2 A.2.2.2.2.2.2.2.1 S hU hW)⟩⟩ rfl hn L.1 rfl (lv_room hst) hd ⟨hm1, hm2⟩) qj_get hO A Rp S L kk
/-- super.m(..) of a StringBuilder -/
def CSb (index : Nat) (y2 : MethodName) (cc2 : ByteArray) (nL2 : Nat) (ret2 : Option FieldType) (np : Nat) : Prop := (∀ w ∈ ([.methodLink RJ4 index y2, .sameMethod y2.cls y2.cls y2.name y2.desc, .superclass RJ4 y2.cls, .instanceMethod y2, .initialized y2.cls, .code y2 cc2 nL2 ret2] : List Cond), w ∈ gw) ∧ nL2 ≤ 22 ∧ y2.name ≠ "<init>" ∧ (parseMethodDescriptor y2.desc).map (fun d => d.parameters.length) = some np
theorem j_callSU {a index : Nat} {y2 : MethodName} {cc2 : ByteArray} {nL2 np d2 mc2 ms2 : Nat} {ret2 : Option FieldType} (As : List Value) {As' : List Value} {O2 : Nat → Prop} {I2 : Heap → Prop} {Q2 : Option Value → Heap → Prop} (hd : decode cc pc = .ok (.invokespecial index, 3)) (hy : y.cls = RJ4) (C : CSb index y2 cc2 nL2 ret2 np) (hrc : Rcv E I a RJ4) (hn : As.length = np) (has : As.reverse ++ .ref a :: st = As') (hst : (st.map fun v => v.category).sum ≤ 8) (hdd : d2 + 1 ≤ d) (hm1 : k + mc2 ≤ mc) (hm2 : n + ms2 ≤ ms)
    (hM : CJ l (setE E O2) y2 cc2 nL2 ret2 d2 mc2 ms2 (.ref a :: As) I2 Q2) (hI : ∀ H, I H → I2 H) (hO : ∀ q, O2 q → E.2.2.2.2 q) (kk : ∀ v, WJ l E y cc nL ret d mc ms Q (k + mc2) (n + ms2) (pc + 3) lv (v.toList ++ st) (Aft O2 I Q2 v)) : WJ l E y cc nL ret d mc ms Q k n pc lv As' I := by
  intro p e s m args below meth c H locs ls A Rp S L
  obtain ⟨c1, c2, c3, c4⟩ := C
  subst has
  have hts := A.2.2.2.2.1
  obtain ⟨hS0, hfc, kC, hkC, hkind⟩ := A.2.2.2.2.2.2.2.2.1.1.1 0 _ rfl
  refine j_run (aa := (Value.ref a :: As).toArray) (va_runSU (Ts := Cond.code y cc nL ret :: gw) (C := RJ4) (As := As) ⟨hfc, kC, hkC, hkind⟩ ⟨A.1, A.2.1, A.2.2.1, A.2.2.2.1, A.2.2.2.2.1⟩ hM (va_cwSU np hts (gi_gw (w1 := va_wsSU y.cls index y2 (Cond.code y2 cc2 nL2 ret2 :: gw)) (fun w hw => ?_)) rfl rfl rfl ⟨c3, c4⟩ ⟨?_, ?_⟩) ⟨cj_blind, hrc s H locs A.2.2.2.2.2.2.2.1 A.2.2.2.2.2.2.2.2 Rp S, fun U hU hW => ⟨rfl, by rw [hU]; exact hI H Rp, KE.set (KE.at A.2.2.2.2.2.2.2.2 A.2.2.2.2.2.2.2.1 S hU hW)⟩⟩ rfl hn L.1 rfl (lv_room hst) hd ⟨hm1, hm2⟩) qj_get hO A Rp S L kk
  · rw [hy] at hw
    simp only [va_wsSU, List.cons_append, List.nil_append, List.mem_cons] at hw
    rcases hw with rfl | rfl | rfl | rfl | rfl | rfl | h
    · exact c1 _ (by simp)
    · exact c1 _ (by simp)
    · exact c1 _ (by simp)
    · exact c1 _ (by simp)
    · exact c1 _ (by simp)
    · exact c1 _ (by simp)
    · exact h
  · exact hdd
  · show 8 + (nL2 + 11) + (41 * d2 + 32) ≤ 41 * d + 32
    omega
/-- a call of one of the class's own methods, by its contract over the picture -/
theorem j_callC {a index : Nat} {ci : Nat} {y2 : MethodName} {cc2 : ByteArray} {nL2 np d2 : Nat} {ret2 : Option FieldType} (As : List Value) {As' : List Value} {Γ : ly} {σ σ2 : mm} {rv : Option Value} {r9 : vw_C} (hd : decode cc pc = .ok (.invokevirtual index, 3)) (C : CVd y.cls index y2 cc2 nL2 ret2 np) (hc : vwCl[ci]? = some r9) (hcn : r9.1 = y2.cls) (ht : tyOK Γ (0, ci) a) (hn : As.length = np) (has : As.reverse ++ .ref (E.1.2.1 a) :: st = As') (hst : (st.map fun v => v.category).sum ≤ 8) (hdd : d2 + 1 ≤ d) (hm1 : k ≤ mc) (hm2 : n ≤ ms) (hb : E.2.2.1 ≤ E.1.1.1)
    (hM : CT l E.1 y2 cc2 nL2 ret2 d2 0 0 (.ref (E.1.2.1 a) :: As) Γ σ (PP rv Γ σ2)) (hI : ∀ H, I H → Rep E.1 Γ σ H) (hO : ∀ q, g_own E.1 q → E.2.2.2.2 q) (kk : WJ l E y cc nL ret d mc ms Q k n (pc + 3) lv (rv.toList ++ st) (fun H1 => ∃ H : Heap, I H ∧ Rep E.1 Γ σ2 H1 ∧ H.size ≤ H1.size ∧ ∀ q, q < H.size → ¬ g_own E.1 q → H1[q]? = H[q]?)) : WJ l E y cc nL ret d mc ms Q k n pc lv As' I := by
  intro p e s m args below meth c H locs ls A Rp S L
  obtain ⟨c1, c2, c3, c4, c5, c6, c7⟩ := C
  subst has
  refine j_run (mc2 := 0) (ms2 := 0) (aa := (Value.ref (E.1.2.1 a) :: As).toArray) (Q2 := fun v H1 => v = rv ∧ Rep E.1 Γ σ2 H1) (va_runV (Ts := Cond.code y cc nL ret :: gw) (C := y2.cls) (As := As) ⟨A.1, A.2.1, A.2.2.1, A.2.2.2.1, A.2.2.2.2.1⟩ hM (cwV np A.2.2.2.2.1 (gi_gw (w1 := wsV y.cls index y2.cls y2 (Cond.code y2 cc2 nL2 ret2 :: gw)) (fun w hw => ?_)) rfl rfl rfl ⟨rfl, c7⟩ ⟨?_, ?_⟩) ⟨pc_blind, ?_, fun U hU hW => ⟨rfl, by rw [hU]; exact hI H Rp, (KE.at A.2.2.2.2.2.2.2.2 A.2.2.2.2.2.2.2.1 S hU hW).1.KK hb⟩⟩ rfl hn L.1 rfl (lv_room hst) hd ⟨hm1, hm2⟩) ?_ hO A Rp S L ?_
  · simp only [wsV, List.cons_append, List.nil_append, List.mem_cons] at hw
    rcases hw with rfl | rfl | rfl | rfl | rfl | h
    · exact c1
    · exact c2
    · exact c3
    · exact c4
    · exact c5
    · exact h
  · exact hdd
  · show 8 + (nL2 + 11) + (41 * d2 + 32) ≤ 41 * d + 32
    omega
  · have := va_recv A.2.2.2.2.2.2.2.2.1.1 (one_P ((hI H Rp).obj ht)) (q0 := 0) hc rfl
    rw [hcn] at this
    exact this
  · rintro a0 v t ⟨⟨v2, Γ', σ', hv, ⟨g1, g2, g3⟩, hr⟩, hf⟩
    cases hv
    subst g1
    subst g2
    subst g3
    exact ⟨⟨rfl, hr⟩, hf⟩
  · intro v p e s m args below meth c H locs ls A Rp S L
    obtain ⟨H0, i0, ⟨rfl, i1⟩, i2, i3⟩ := Rp
    exact kk p e s m args below meth c H locs ls A ⟨H0, i0, i1, i2, i3⟩ S L
end J
