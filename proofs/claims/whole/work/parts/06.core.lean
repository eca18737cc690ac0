/-! The core: a picture of the heap by numbers, a judgement WP over it, a rule an instruction. -/
abbrev ly : Type := Nat × (Nat → Nat × Nat)
abbrev mm : Type := (Nat → Nat → Int32) × (Nat → Nat → Int64) × (Nat → Nat → Option Nat)
/-- where the picture's cells begin, where they end, whether the last is the heap's last; their places; the classes' numbers; the arrays' -/
abbrev gg : Type := (Nat × Nat × Bool) × (Nat → Nat) × va_G × (Nat → ClassId) × (Nat → Prop)
def up2 {α : Type} (f : Nat → Nat → α) (a j : Nat) (x : α) : Nat → Nat → α := fun a' j' => if a' = a then (if j' = j then x else f a' j') else f a' j'
theorem up2_ne {α : Type} {f : Nat → Nat → α} {a j : Nat} {x : α} {k : Nat} (h : k ≠ a) : up2 f a j x k = f k := by
  funext j'
  simp [up2, h]
theorem up2_eq {α : Type} {f : Nat → Nat → α} {a j : Nat} {x : α} {i : Nat} : up2 f a j x a i = if i = j then x else f a i := by
  simp [up2]
def inb (i : Int32) (n : Nat) : Bool := !(decide (i < 0)) && decide (i.toNatClampNeg < n)
theorem inb_in {i : Int32} {n : Nat} (h : inb i n = true) : vp_in i n := by
  simp only [inb, Bool.and_eq_true, Bool.not_eq_true', decide_eq_false_iff_not, decide_eq_true_eq] at h
  rintro (q | q)
  · exact h.1 q
  · omega
def isb (v : Int32) : Bool := decide (v = 0) || decide (v = 1)
theorem isb_nar {v : Int32} (h : isb v = true) : narrow .boolean (.int v) = .int v := by
  simp only [isb, Bool.or_eq_true, decide_eq_true_eq] at h
  rcases h with rfl | rfl <;> rfl
theorem isb_fit {v : Int32} (h : isb v = true) : fits .boolean (.int v) = true := by
  simp only [isb, Bool.or_eq_true, decide_eq_true_eq] at h
  rcases h with rfl | rfl <;> decide +kernel
/-- a loop: the body goes on, or ends it -/
def loopN {α β : Type} (f : α → Option (α ⊕ β)) : Nat → α → Option β
  | 0, _ => none
  | n + 1, s => match f s with
    | none => none
    | some (.inl s') => loopN f n s'
    | some (.inr r) => some r
def g_own (G : gg) : Nat → Prop := fun q => G.1.1 ≤ q ∧ q < G.1.2.1 ∧ G.2.2.2.2 q
def h_v (G : gg) (σ : mm) (t k j : Nat) : Value := match t with
  | 0 => .int (σ.1 k j)
  | 1 => .long (σ.2.1 k j)
  | _ => va_rf ((σ.2.2 k j).map G.2.1)
def h_fs (G : gg) (σ : mm) (ci k : Nat) : List Value := (List.range (c_n ci)).map (fun j => h_v G σ (c_t ci j) k j)
theorem h_fs_get {G : gg} {σ : mm} {ci k j : Nat} (h : j < c_n ci) : (h_fs G σ ci k)[j]? = some (h_v G σ (c_t ci j) k j) := by
  simp [h_fs, h]
theorem h_fs_len {G : gg} {σ : mm} {ci k : Nat} : (h_fs G σ ci k).length = c_n ci := by
  simp [h_fs]
theorem h_fs_V {G : gg} {σ : mm} {ci k j : Nat} (h : j < c_n ci) : vp_V (h_fs G σ ci k) j = h_v G σ (c_t ci j) k j := by
  unfold vp_V
  rw [List.getD_eq_getElem?_getD, h_fs_get h]
  rfl
/-- what a cell holds, by its kind: 0 an object (its class), 1 .. arrays (their length) -/
def h_cell (G : gg) (sh : Nat × Nat) (σ : mm) (k : Nat) : Option va_E := match sh.1 with
  | 0 => some (.inr (sh.2, h_fs G σ sh.2 k))
  | 1 => some (.inl (G.2.2.2.1 1, sh.2, .inl (σ.1 k)))
  | 2 => some (.inl (G.2.2.2.1 2, sh.2, .inl (σ.1 k)))
  | 3 => some (.inl (G.2.2.2.1 3, sh.2, .inl (σ.1 k)))
  | 4 => some (.inl (G.2.2.2.1 4, sh.2, .inr (.inl (σ.2.1 k))))
  | 5 => some (.inl (G.2.2.2.1 5, sh.2, .inr (.inr (.inr (.inr fun j => (σ.2.2 k j).map G.2.1)))))
  | 6 => some (.inl (G.2.2.2.1 6, sh.2, .inr (.inr (.inr (.inr fun j => (σ.2.2 k j).map G.2.1)))))
  | 7 => some (.inl (G.2.2.2.1 7, sh.2, .inr (.inr (.inr (.inr fun j => (σ.2.2 k j).map G.2.1)))))
  | 8 => some (.inl (G.2.2.2.1 8, sh.2, .inr (.inr (.inr (.inr fun j => (σ.2.2 k j).map G.2.1)))))
  | _ => none
theorem h_cell_same {G : gg} {sh : Nat × Nat} {σ σ' : mm} {k : Nat} (h1 : σ'.1 k = σ.1 k) (h2 : σ'.2.1 k = σ.2.1 k) (h3 : σ'.2.2 k = σ.2.2 k) : h_cell G sh σ' k = h_cell G sh σ k := by
  unfold h_cell h_fs h_v
  rw [h1, h2, h3]
/-- a reference is of the declared type -/
def tyOK (Γ : ly) (e : Nat × Nat) (b : Nat) : Prop := match e.1 with
  | 0 => 64 ≤ b ∧ b < Γ.1 ∧ Γ.2 b = (0, e.2)
  | 100 => b < 31
  | 101 => True
  | t => 64 ≤ b ∧ b < Γ.1 ∧ (Γ.2 b).1 = t
def a_r : Nat → Nat × Nat := fun t => match t with
  | 5 => (0, 3)
  | 6 => (0, 4)
  | 7 => (0, 7)
  | 8 => (100, 0)
  | _ => (101, 0)
def wtp (Γ : ly) (σ : mm) : Prop := ∀ k, 64 ≤ k → k < Γ.1 → ((Γ.2 k).1 = 0 → ∀ j, j < c_n (Γ.2 k).2 → c_t (Γ.2 k).2 j = 2 → ∀ b, σ.2.2 k j = some b → tyOK Γ (c_r (Γ.2 k).2 j) b) ∧ (5 ≤ (Γ.2 k).1 → (Γ.2 k).1 ≤ 8 → ∀ j, j < (Γ.2 k).2 → ∀ b, σ.2.2 k j = some b → tyOK Γ (a_r (Γ.2 k).1) b)
def tysOf (G : gg) : List (ClassId × FieldType) := [(G.2.2.2.1 0, .int), (G.2.2.2.1 1, .int), (G.2.2.2.1 2, .byte), (G.2.2.2.1 3, .boolean), (G.2.2.2.1 4, .long), (G.2.2.2.1 5, .object "GlassVows$Life"), (G.2.2.2.1 6, .object "GlassVows$Parish"), (G.2.2.2.1 7, .object "GlassVows$Sentence"), (G.2.2.2.1 8, .object "GlassVows$Word")]
def lmOK (G : gg) (Γ : ly) : Prop := G.2.1 Γ.1 ≤ G.1.2.1 ∧ (∀ k, 64 ≤ k → k < Γ.1 → (Γ.2 k).1 ≠ 99 → G.2.2.2.2 (G.2.1 k)) ∧ (G.1.2.2 = true → ∀ q, G.2.2.2.2 q)
def Rep (G : gg) (Γ : ly) (σ : mm) (H : Heap) : Prop := ((G.1.2.2 = true → H.size = G.2.1 Γ.1) ∧ lmOK G Γ) ∧ 64 ≤ Γ.1 ∧ wtp Γ σ ∧ ∀ (k : Nat) (e : va_E), 64 ≤ k → k < Γ.1 → h_cell G (Γ.2 k) σ k = some e → va_at G.2.2.1 vwCl (G.2.1 k, e) H

/-- words of the tables that move with the machine in ways of their own -/
def KN (U : State) : Prop := va_Nw (.methodLinkNest "GlassVows" 9 ⟨"GlassVows$Tape", "<init>", "()V"⟩ "GlassVows") U ∧ va_Nw (.methodLinkNest "GlassVows" 18 ⟨"GlassVows$Parish", "<init>", "()V"⟩ "GlassVows") U ∧ va_Nw (.methodLinkNest "GlassVows$Parish" 51 ⟨"GlassVows$Goods", "<init>", "()V"⟩ "GlassVows") U ∧ (∃ a, vk_R "GlassVows" 150 "no such person" a U) ∧ (∃ a, vk_R "GlassVows" 179 "no such thing of a person" a U) ∧ (∃ a, vk_R "GlassVows" 184 "no such glass" a U) ∧ ∃ a, vk_R "GlassVows" 220 "no such thing of a glass" a U
theorem KN.warm {s U : State} (hW : s.WarmedH U.vm) (h : KN s) : KN U := ⟨va_Nw.warmM hW h.1, va_Nw.warmM hW h.2.1, va_Nw.warmM hW h.2.2.1, h.2.2.2.1.imp (fun _ q => q.warm hW), h.2.2.2.2.1.imp (fun _ q => q.warm hW), h.2.2.2.2.2.1.imp (fun _ q => q.warm hW), h.2.2.2.2.2.2.imp (fun _ q => q.warm hW)⟩
theorem KN.same {u U : State} (hvm : u.vm = U.vm) (h : KN u) : KN U := ⟨va_Nw.same rfl hvm h.1, va_Nw.same rfl hvm h.2.1, va_Nw.same rfl hvm h.2.2.1, h.2.2.2.1.imp (fun _ q => q.same hvm.symm), h.2.2.2.2.1.imp (fun _ q => q.same hvm.symm), h.2.2.2.2.2.1.imp (fun _ q => q.same hvm.symm), h.2.2.2.2.2.2.imp (fun _ q => q.same hvm.symm)⟩
def KX (G : gg) (U : State) (H : Heap) : Prop := va_AO "GlassVows$Life" U ∧ va_AO "GlassVows$Parish" U ∧ va_AO "GlassVows$Sentence" U ∧ va_AO "GlassVows$Word" U ∧ va_Z "java/lang/String" "COMPACT_STRINGS" "Z" (.int 1) (g_own G) U H ∧ vx_Zq Bundle.tN "UNASSIGNED_STACK" Bundle.steD (g_own G) U H ∧ vx_Zq Bundle.tN "SUPPRESSED_SENTINEL" Bundle.listD (g_own G) U H
theorem KX.moved {G : gg} {u U : State} {H : Heap} (hvm : u.vm.Alike U.vm) (h : KX G u H) : KX G U H := ⟨h.1.moved hvm, h.2.1.moved hvm, h.2.2.1.moved hvm, h.2.2.2.1.moved hvm, va_Z.moved hvm h.2.2.2.2.1, vx_Zq.moved hvm h.2.2.2.2.2.1, vx_Zq.moved hvm h.2.2.2.2.2.2⟩
theorem KX.kept {G : gg} {U : State} {H H1 : Heap} (h : KX G U H) (hq : ∀ q : Nat, q < H.size → ¬ g_own G q → H1[q]? = H[q]?) : KX G U H1 := ⟨h.1, h.2.1, h.2.2.1, h.2.2.2.1, h.2.2.2.2.1.kept hq, h.2.2.2.2.2.1.kept hq, h.2.2.2.2.2.2.kept hq⟩
def KC (G : gg) (U : State) (H : Heap) : Prop := (∀ i, i < 31 → va_Z "GlassVows$Word" (wnm i) "LGlassVows$Word;" (.ref (G.2.1 i)) (g_own G) U H) ∧ (∀ i, i < 31 → va_O "GlassVows$Word" (G.2.1 i) (g_own G) U H) ∧ va_Ef 31 "java/lang/Enum" "ordinal" "I" (fun i => .int (Int32.ofNat i)) G.2.1 (g_own G) U H ∧ va_Ef 31 "GlassVows$Word" "code" "J" (fun i => .long (wcode i)) G.2.1 (g_own G) U H ∧ (∀ i j, i < 31 → j < 31 → G.2.1 i = G.2.1 j → i = j) ∧ va_Z "GlassVows$Word" "ALL" "[LGlassVows$Word;" (.ref (G.2.1 31)) (g_own G) U H ∧ va_T (.object "GlassVows$Word") (G.2.1 31) 31 (fun j => .ref (G.2.1 j)) (g_own G) U H ∧ va_Z "GlassVows$1" "$SwitchMap$GlassVows$Word" "[I" (.ref (G.2.1 32)) (g_own G) U H ∧ va_T .int (G.2.1 32) 31 (fun j => .int (swm j)) (g_own G) U H ∧ KX G U H
theorem KC.moved {G : gg} {u U : State} {H : Heap} (hvm : u.vm.Alike U.vm) (h : KC G u H) : KC G U H :=
  ⟨fun i hi => va_Z.moved hvm (h.1 i hi), fun i hi => va_O.moved hvm (h.2.1 i hi), va_Ef.moved hvm h.2.2.1, va_Ef.moved hvm h.2.2.2.1, h.2.2.2.2.1, va_Z.moved hvm h.2.2.2.2.2.1, va_T.moved hvm h.2.2.2.2.2.2.1, va_Z.moved hvm h.2.2.2.2.2.2.2.1, va_T.moved hvm h.2.2.2.2.2.2.2.2.1, h.2.2.2.2.2.2.2.2.2.moved hvm⟩
theorem KC.kept {G : gg} {U : State} {H H1 : Heap} (h : KC G U H) (hq : ∀ q : Nat, q < H.size → ¬ g_own G q → H1[q]? = H[q]?) : KC G U H1 :=
  ⟨fun i hi => (h.1 i hi).kept hq, fun i hi => (h.2.1 i hi).kept hq, h.2.2.1.kept hq, h.2.2.2.1.kept hq, h.2.2.2.2.1, h.2.2.2.2.2.1.kept hq, h.2.2.2.2.2.2.1.kept hq, h.2.2.2.2.2.2.2.1.kept hq, h.2.2.2.2.2.2.2.2.1.kept hq, h.2.2.2.2.2.2.2.2.2.kept hq⟩
def KK (G : gg) (U : State) (H : Heap) : Prop := va_K G.2.2.1 vwCl (tysOf G) U ∧ (∀ k, G.2.1 (64 + k) = G.1.1 + k) ∧ KC G U H ∧ KN U
theorem KK.warm {G : gg} {s U : State} {H : Heap} (hW : s.WarmedH U.vm) (h : KK G s H) : KK G U H := ⟨va_K.moved hW.alike h.1, h.2.1, h.2.2.1.moved hW.alike, h.2.2.2.warm hW⟩
theorem KK.same {G : gg} {u U : State} {H : Heap} (hvm : u.vm = U.vm) (h : KK G u H) : KK G U H := ⟨va_K.moved (by rw [hvm]; exact Vm.Alike.refl _) h.1, h.2.1, h.2.2.1.moved (by rw [hvm]; exact Vm.Alike.refl _), h.2.2.2.same hvm⟩
theorem KK.kept {G : gg} {U : State} {H H1 : Heap} (h : KK G U H) (hq : ∀ q : Nat, q < H.size → ¬ g_own G q → H1[q]? = H[q]?) : KK G U H1 := ⟨h.1, h.2.1, h.2.2.1.kept hq, h.2.2.2⟩
theorem KK.kx {G : gg} {U : State} {H : Heap} (h : KK G U H) : KX G U H := h.2.2.1.2.2.2.2.2.2.2.2.2
theorem ad_own {G : gg} (h : ∀ k, G.2.1 (64 + k) = G.1.1 + k) {k : Nat} (hk : 64 ≤ k) : G.2.1 k = G.1.1 + (k - 64) := by
  have := h (k - 64)
  rwa [show 64 + (k - 64) = k by omega] at this
theorem ad_inj {G : gg} (h : ∀ k, G.2.1 (64 + k) = G.1.1 + k) {i j : Nat} (hi : 64 ≤ i) (hj : 64 ≤ j) (e : G.2.1 i = G.2.1 j) : i = j := by
  rw [ad_own h hi, ad_own h hj] at e
  omega
def rmOf (d mc ms : Nat) : Room := { frames := d, cells := mc, slots := ms, locals := 41 * d + 32 }
theorem Rep.own {G : gg} {Γ : ly} {σ : mm} {H : Heap} (Rp : Rep G Γ σ H) (hA : ∀ k, G.2.1 (64 + k) = G.1.1 + k) {a : Nat} (h1 : 64 ≤ a) (h2 : a < Γ.1) (hne : (Γ.2 a).1 ≠ 99) : g_own G (G.2.1 a) := by
  have h3 := Rp.1.2.1
  rw [ad_own hA (Nat.le_trans h1 (Nat.le_of_lt h2))] at h3
  refine ⟨?_, ?_, Rp.1.2.2.1 a h1 h2 hne⟩
  · rw [ad_own hA h1]
    omega
  · rw [ad_own hA h1]
    omega
def QQ (G : gg) (Q : Option Value → ly → mm → Prop) : Array Value → State → Outcome → State → Prop := fun _ st o t => (∃ (v : Option Value) (Γ : ly) (σ : mm), o = .returned v ∧ Q v Γ σ ∧ Rep G Γ σ t.heap) ∧ va_F (g_own G) st t
/-- a contract -/
def CT (l : Launch) (G : gg) (y : MethodName) (cc : ByteArray) (nL : Nat) (ret : Option FieldType) (d mc ms : Nat) (As : List Value) (Γ : ly) (σ : mm) (Q : Option Value → ly → mm → Prop) : Prop :=
  Met l y (Cond.code y cc nL ret :: gw) (rmOf d mc ms) (va_Pc As (fun U => Rep G Γ σ U.heap ∧ KK G U U.heap)) (QQ G Q) mc ms (g_own G)
/-- an activation -/
def AC (G : gg) (y : MethodName) (cc : ByteArray) (nL : Nat) (ret : Option FieldType) (p : Program) (s : State) (m : MethodId) (args : Array Value) (meth : Method) (c : Code) : Prop :=
  p.tables.exec = Jvm.exec ∧ c.code = cc ∧ c.maxLocals = nL ∧ s.vm.findClass y.cls = some m.cls ∧ (∀ w ∈ (Cond.code y cc nL ret :: gw), w.before args s = true) ∧ meth.sig.returnType = ret ∧ meth.locks = false ∧ meth.name = y.name ∧ KK G s s.heap
def WP (l : Launch) (G : gg) (y : MethodName) (cc : ByteArray) (nL : Nat) (ret : Option FieldType) (d mc ms : Nat) (Q : Option Value → ly → mm → Prop) (k n pc : Nat) (lv : List (Nat × Value)) (st : List Value) (Γ : ly) (σ : mm) : Prop :=
  ∀ (p : Program) (e : Env) (s : State) (m : MethodId) (args : Array Value) (below : List Frame) (meth : Method) (c : Code) (H : Heap) (locs : List Loc) (ls : Array Slot), AC G y cc nL ret p s m args meth c → Rep G Γ σ H → va_S (g_own G) s.heap H locs → lv_has ls nL lv →
    W p l e (rmOf d mc ms) s m args below meth c H locs k n (MQ below (QQ G Q) args s mc ms (g_own G)) (F0 m pc ls st)
theorem CT.ofWP {l : Launch} {G : gg} {y : MethodName} {cc : ByteArray} {nL : Nat} {ret : Option FieldType} {d mc ms : Nat} {As : List Value} {Γ : ly} {σ : mm} {Q : Option Value → ly → mm → Prop} (hy : plainName y.cls = true) (hl : (lg_sl As).length ≤ nL)
    (h : WP l G y cc nL ret d mc ms Q 0 0 0 (lv_args 0 As) [] Γ σ) : CT l G y cc nL ret d mc ms As Γ σ Q := by
  refine Met.ofW (cc := cc) (maxL := nL) (ret := ret) hy rfl ?_
  intro p e s m args below meth c s₁ B hml hv
  obtain ⟨rfl, hR, hK⟩ := hv
  have hle := lv_entry As (n := nL) hl
  rw [lg_entry_eq]
  exact h p e s m _ below meth c s.heap [] _ ⟨B.exec, B.bytes, hml, findClass_of_methodNamed B.named, atoms_spec (ws := Cond.code y cc nL ret :: gw) B.pre, B.returns, B.notSynchronized, (name_of_methodNamed B.named B.method).1, hK⟩ hR va_S.rf hle
section R
variable {l : Launch} {G : gg} {y : MethodName} {cc : ByteArray} {nL : Nat} {ret : Option FieldType} {d mc ms : Nat} {Q : Option Value → ly → mm → Prop} {k n pc : Nat} {lv lv' : List (Nat × Value)} {st : List Value} {Γ : ly} {σ : mm}
theorem r_sub (h : ∀ q ∈ lv', q ∈ lv) (kk : WP l G y cc nL ret d mc ms Q k n pc lv' st Γ σ) : WP l G y cc nL ret d mc ms Q k n pc lv st Γ σ :=
  fun p e s m args below meth c H locs ls A Rp S L => kk p e s m args below meth c H locs ls A Rp S ⟨L.1, L.2.1, fun q hq => L.2.2 q (h q hq)⟩
theorem r_pick (ks : List Nat) (h : lv_pick lv ks = lv') (kk : WP l G y cc nL ret d mc ms Q k n pc lv' st Γ σ) : WP l G y cc nL ret d mc ms Q k n pc lv st Γ σ :=
  fun p e s m args below meth c H locs ls A Rp S L => kk p e s m args below meth c H locs ls A Rp S (lv_sub L ks h)
theorem r_iconst {z : Int} {v : Int32} (hd : decode cc pc = .ok (.iconst z, 1)) (hv : Int32.ofInt z = v) (kk : WP l G y cc nL ret d mc ms Q k n (pc + 1) lv (.int v :: st) Γ σ) : WP l G y cc nL ret d mc ms Q k n (pc) lv (st) Γ σ :=
  fun p e s m args below meth c H locs ls A Rp S L => lv_iconst A.1 A.2.1 hd hv (kk p e s m args below meth c H locs ls A Rp S L)
theorem r_bipush {z : Int} {v : Int32} (hd : decode cc pc = .ok (.bipush z, 2)) (hv : (Int8.ofInt z).toInt32 = v) (kk : WP l G y cc nL ret d mc ms Q k n (pc + 2) lv (.int v :: st) Γ σ) : WP l G y cc nL ret d mc ms Q k n (pc) lv (st) Γ σ :=
  fun p e s m args below meth c H locs ls A Rp S L => lv_bipush A.1 A.2.1 hd hv (kk p e s m args below meth c H locs ls A Rp S L)
theorem r_sipush {z : Int} {v : Int32} (hd : decode cc pc = .ok (.sipush z, 3)) (hv : (Int16.ofInt z).toInt32 = v) (kk : WP l G y cc nL ret d mc ms Q k n (pc + 3) lv (.int v :: st) Γ σ) : WP l G y cc nL ret d mc ms Q k n (pc) lv (st) Γ σ :=
  fun p e s m args below meth c H locs ls A Rp S L => lv_sipush A.1 A.2.1 hd hv (kk p e s m args below meth c H locs ls A Rp S L)
theorem r_lconst {z : Fin 2} {v : Int64} (hd : decode cc pc = .ok (.lconst z, 1)) (hv : Int64.ofNat (z : Nat) = v) (kk : WP l G y cc nL ret d mc ms Q k n (pc + 1) lv (.long v :: st) Γ σ) : WP l G y cc nL ret d mc ms Q k n (pc) lv (st) Γ σ :=
  fun p e s m args below meth c H locs ls A Rp S L => lv_lconst A.1 A.2.1 hd hv (kk p e s m args below meth c H locs ls A Rp S L)
theorem r_ldc2 {index : Nat} {v : Int64} (hd : decode cc pc = .ok (.ldc2_w index, 3)) (hw : Cond.constantLong y.cls index v ∈ gw) (kk : WP l G y cc nL ret d mc ms Q k n (pc + 3) lv (.long v :: st) Γ σ) : WP l G y cc nL ret d mc ms Q k n (pc) lv (st) Γ σ :=
  fun p e s m args below meth c H locs ls A Rp S L => lv_ldc2 A.1 A.2.1 A.2.2.2.1 (A.2.2.2.2.1 _ (List.mem_cons_of_mem _ hw)) hd (kk p e s m args below meth c H locs ls A Rp S L)
theorem r_ldc {index : Nat} {v : Int32} (hd : decode cc pc = .ok (.ldc index, 2)) (hw : Cond.constant y.cls index v ∈ gw) (kk : WP l G y cc nL ret d mc ms Q k n (pc + 2) lv (.int v :: st) Γ σ) : WP l G y cc nL ret d mc ms Q k n (pc) lv (st) Γ σ :=
  fun p e s m args below meth c H locs ls A Rp S L => lv_ldc A.1 A.2.1 A.2.2.2.1 (A.2.2.2.2.1 _ (List.mem_cons_of_mem _ hw)) hd (kk p e s m args below meth c H locs ls A Rp S L)
theorem r_ldcw {index : Nat} {v : Int32} (hd : decode cc pc = .ok (.ldc_w index, 3)) (hw : Cond.constant y.cls index v ∈ gw) (kk : WP l G y cc nL ret d mc ms Q k n (pc + 3) lv (.int v :: st) Γ σ) : WP l G y cc nL ret d mc ms Q k n (pc) lv (st) Γ σ :=
  fun p e s m args below meth c H locs ls A Rp S L => lv_ldcw A.1 A.2.1 A.2.2.2.1 (A.2.2.2.2.1 _ (List.mem_cons_of_mem _ hw)) hd (kk p e s m args below meth c H locs ls A Rp S L)
theorem r_iload_n {z : Fin 4} {x : Int32} (q : Nat) (hd : decode cc pc = .ok (.iload_n z, 1)) (hk : lv[q]? = some ((z : Nat), .int x)) (kk : WP l G y cc nL ret d mc ms Q k n (pc + 1) lv (.int x :: st) Γ σ) : WP l G y cc nL ret d mc ms Q k n (pc) lv (st) Γ σ :=
  fun p e s m args below meth c H locs ls A Rp S L => lv_iload_n A.1 A.2.1 hd rfl (lv_at L q hk) (kk p e s m args below meth c H locs ls A Rp S L)
theorem r_iload {z : Nat} {x : Int32} (q : Nat) (hd : decode cc pc = .ok (.iload z, 2)) (hk : lv[q]? = some (z, .int x)) (kk : WP l G y cc nL ret d mc ms Q k n (pc + 2) lv (.int x :: st) Γ σ) : WP l G y cc nL ret d mc ms Q k n (pc) lv (st) Γ σ :=
  fun p e s m args below meth c H locs ls A Rp S L => lv_iload A.1 A.2.1 hd (lv_at L q hk) (kk p e s m args below meth c H locs ls A Rp S L)
theorem r_istore_n {z : Fin 4} {x : Int32} (hd : decode cc pc = .ok (.istore_n z, 1)) (hn : (z : Nat) < nL) (hl : ((z : Nat), Value.int x) :: lv.filter (fun q => !(q.1 == (z : Nat)) && !(q.1 + 1 == (z : Nat) && q.2.category == 2)) = lv') (kk : WP l G y cc nL ret d mc ms Q k n (pc + 1) lv' (st) Γ σ) : WP l G y cc nL ret d mc ms Q k n (pc) lv (.int x :: st) Γ σ :=
  fun p e s m args below meth c H locs ls A Rp S L => lv_istore_n A.1 A.2.1 hd rfl L hn hl (fun ls L => (kk p e s m args below meth c H locs ls A Rp S L))
theorem r_istore {z : Nat} {x : Int32} (hd : decode cc pc = .ok (.istore z, 2)) (hn : z < nL) (hl : (z, Value.int x) :: lv.filter (fun q => !(q.1 == z) && !(q.1 + 1 == z && q.2.category == 2)) = lv') (kk : WP l G y cc nL ret d mc ms Q k n (pc + 2) lv' (st) Γ σ) : WP l G y cc nL ret d mc ms Q k n (pc) lv (.int x :: st) Γ σ :=
  fun p e s m args below meth c H locs ls A Rp S L => lv_istore A.1 A.2.1 hd L hn hl (fun ls L => (kk p e s m args below meth c H locs ls A Rp S L))
theorem r_lload_n {z : Fin 4} {x : Int64} (q : Nat) (hd : decode cc pc = .ok (.lload_n z, 1)) (hk : lv[q]? = some ((z : Nat), .long x)) (kk : WP l G y cc nL ret d mc ms Q k n (pc + 1) lv (.long x :: st) Γ σ) : WP l G y cc nL ret d mc ms Q k n (pc) lv (st) Γ σ :=
  fun p e s m args below meth c H locs ls A Rp S L => lv_lload_n A.1 A.2.1 hd rfl (lv_at L q hk) (kk p e s m args below meth c H locs ls A Rp S L)
theorem r_lload {z : Nat} {x : Int64} (q : Nat) (hd : decode cc pc = .ok (.lload z, 2)) (hk : lv[q]? = some (z, .long x)) (kk : WP l G y cc nL ret d mc ms Q k n (pc + 2) lv (.long x :: st) Γ σ) : WP l G y cc nL ret d mc ms Q k n (pc) lv (st) Γ σ :=
  fun p e s m args below meth c H locs ls A Rp S L => lv_lload A.1 A.2.1 hd (lv_at L q hk) (kk p e s m args below meth c H locs ls A Rp S L)
theorem r_lstore_n {z : Fin 4} {x : Int64} (hd : decode cc pc = .ok (.lstore_n z, 1)) (hn : (z : Nat) + 1 < nL) (hl : ((z : Nat), Value.long x) :: lv.filter (fun q => !(q.1 == (z : Nat)) && (!(q.1 == (z : Nat) + 1) && !(q.1 + 1 == (z : Nat) && q.2.category == 2))) = lv') (kk : WP l G y cc nL ret d mc ms Q k n (pc + 1) lv' (st) Γ σ) : WP l G y cc nL ret d mc ms Q k n (pc) lv (.long x :: st) Γ σ :=
  fun p e s m args below meth c H locs ls A Rp S L => lv_lstore_n A.1 A.2.1 hd rfl L hn hl (fun ls L => (kk p e s m args below meth c H locs ls A Rp S L))
theorem r_lstore {z : Nat} {x : Int64} (hd : decode cc pc = .ok (.lstore z, 2)) (hn : z + 1 < nL) (hl : (z, Value.long x) :: lv.filter (fun q => !(q.1 == z) && (!(q.1 == z + 1) && !(q.1 + 1 == z && q.2.category == 2))) = lv') (kk : WP l G y cc nL ret d mc ms Q k n (pc + 2) lv' (st) Γ σ) : WP l G y cc nL ret d mc ms Q k n (pc) lv (.long x :: st) Γ σ :=
  fun p e s m args below meth c H locs ls A Rp S L => lv_lstore A.1 A.2.1 hd L hn hl (fun ls L => (kk p e s m args below meth c H locs ls A Rp S L))
theorem r_aload_n {z : Fin 4} {x : Nat} (q : Nat) (hd : decode cc pc = .ok (.aload_n z, 1)) (hk : lv[q]? = some ((z : Nat), .ref x)) (kk : WP l G y cc nL ret d mc ms Q k n (pc + 1) lv (.ref x :: st) Γ σ) : WP l G y cc nL ret d mc ms Q k n (pc) lv (st) Γ σ :=
  fun p e s m args below meth c H locs ls A Rp S L => lv_aload_n A.1 A.2.1 hd rfl (lv_at L q hk) (kk p e s m args below meth c H locs ls A Rp S L)
theorem r_aload {z : Nat} {x : Nat} (q : Nat) (hd : decode cc pc = .ok (.aload z, 2)) (hk : lv[q]? = some (z, .ref x)) (kk : WP l G y cc nL ret d mc ms Q k n (pc + 2) lv (.ref x :: st) Γ σ) : WP l G y cc nL ret d mc ms Q k n (pc) lv (st) Γ σ :=
  fun p e s m args below meth c H locs ls A Rp S L => lv_aload A.1 A.2.1 hd (lv_at L q hk) (kk p e s m args below meth c H locs ls A Rp S L)
theorem r_astore_n {z : Fin 4} {x : Nat} (hd : decode cc pc = .ok (.astore_n z, 1)) (hn : (z : Nat) < nL) (hl : ((z : Nat), Value.ref x) :: lv.filter (fun q => !(q.1 == (z : Nat)) && !(q.1 + 1 == (z : Nat) && q.2.category == 2)) = lv') (kk : WP l G y cc nL ret d mc ms Q k n (pc + 1) lv' (st) Γ σ) : WP l G y cc nL ret d mc ms Q k n (pc) lv (.ref x :: st) Γ σ :=
  fun p e s m args below meth c H locs ls A Rp S L => lv_astore_n A.1 A.2.1 hd rfl L hn hl (fun ls L => (kk p e s m args below meth c H locs ls A Rp S L))
theorem r_astore {z : Nat} {x : Nat} (hd : decode cc pc = .ok (.astore z, 2)) (hn : z < nL) (hl : (z, Value.ref x) :: lv.filter (fun q => !(q.1 == z) && !(q.1 + 1 == z && q.2.category == 2)) = lv') (kk : WP l G y cc nL ret d mc ms Q k n (pc + 2) lv' (st) Γ σ) : WP l G y cc nL ret d mc ms Q k n (pc) lv (.ref x :: st) Γ σ :=
  fun p e s m args below meth c H locs ls A Rp S L => lv_astore A.1 A.2.1 hd L hn hl (fun ls L => (kk p e s m args below meth c H locs ls A Rp S L))
theorem r_iinc {z : Nat} {w : Int} {x v : Int32} (q : Nat) (hd : decode cc pc = .ok (.iinc z w, 3)) (hk : lv[q]? = some (z, .int x)) (hv : Int32.ofInt w = v) (hn : z < nL) (hl : (z, Value.int (x + v)) :: lv.filter (fun q => !(q.1 == z) && !(q.1 + 1 == z && q.2.category == 2)) = lv') (kk : WP l G y cc nL ret d mc ms Q k n (pc + 3) lv' (st) Γ σ) : WP l G y cc nL ret d mc ms Q k n (pc) lv (st) Γ σ :=
  fun p e s m args below meth c H locs ls A Rp S L => lv_iinc A.1 A.2.1 hd L hk (by rw [hv]) hn hl (fun ls L => (kk p e s m args below meth c H locs ls A Rp S L))
theorem r_iadd {x y' : Int32} (hd : decode cc pc = .ok (.iadd, 1)) (kk : WP l G y cc nL ret d mc ms Q k n (pc + 1) lv (.int (x + y') :: st) Γ σ) : WP l G y cc nL ret d mc ms Q k n (pc) lv (.int y' :: .int x :: st) Γ σ :=
  fun p e s m args below meth c H locs ls A Rp S L => lv_iadd A.1 A.2.1 hd (kk p e s m args below meth c H locs ls A Rp S L)
theorem r_isub {x y' : Int32} (hd : decode cc pc = .ok (.isub, 1)) (kk : WP l G y cc nL ret d mc ms Q k n (pc + 1) lv (.int (x - y') :: st) Γ σ) : WP l G y cc nL ret d mc ms Q k n (pc) lv (.int y' :: .int x :: st) Γ σ :=
  fun p e s m args below meth c H locs ls A Rp S L => lv_isub A.1 A.2.1 hd (kk p e s m args below meth c H locs ls A Rp S L)
theorem r_imul {x y' : Int32} (hd : decode cc pc = .ok (.imul, 1)) (kk : WP l G y cc nL ret d mc ms Q k n (pc + 1) lv (.int (x * y') :: st) Γ σ) : WP l G y cc nL ret d mc ms Q k n (pc) lv (.int y' :: .int x :: st) Γ σ :=
  fun p e s m args below meth c H locs ls A Rp S L => lv_imul A.1 A.2.1 hd (kk p e s m args below meth c H locs ls A Rp S L)
theorem r_iand {x y' : Int32} (hd : decode cc pc = .ok (.iand, 1)) (kk : WP l G y cc nL ret d mc ms Q k n (pc + 1) lv (.int (x &&& y') :: st) Γ σ) : WP l G y cc nL ret d mc ms Q k n (pc) lv (.int y' :: .int x :: st) Γ σ :=
  fun p e s m args below meth c H locs ls A Rp S L => lv_iand A.1 A.2.1 hd (kk p e s m args below meth c H locs ls A Rp S L)
theorem r_ior {x y' : Int32} (hd : decode cc pc = .ok (.ior, 1)) (kk : WP l G y cc nL ret d mc ms Q k n (pc + 1) lv (.int (x ||| y') :: st) Γ σ) : WP l G y cc nL ret d mc ms Q k n (pc) lv (.int y' :: .int x :: st) Γ σ :=
  fun p e s m args below meth c H locs ls A Rp S L => lv_ior A.1 A.2.1 hd (kk p e s m args below meth c H locs ls A Rp S L)
theorem r_ixor {x y' : Int32} (hd : decode cc pc = .ok (.ixor, 1)) (kk : WP l G y cc nL ret d mc ms Q k n (pc + 1) lv (.int (x ^^^ y') :: st) Γ σ) : WP l G y cc nL ret d mc ms Q k n (pc) lv (.int y' :: .int x :: st) Γ σ :=
  fun p e s m args below meth c H locs ls A Rp S L => lv_ixor A.1 A.2.1 hd (kk p e s m args below meth c H locs ls A Rp S L)
theorem r_ishl {x y' : Int32} (hd : decode cc pc = .ok (.ishl, 1)) (kk : WP l G y cc nL ret d mc ms Q k n (pc + 1) lv (.int (x <<< (y' &&& 31)) :: st) Γ σ) : WP l G y cc nL ret d mc ms Q k n (pc) lv (.int y' :: .int x :: st) Γ σ :=
  fun p e s m args below meth c H locs ls A Rp S L => lv_ishl A.1 A.2.1 hd (kk p e s m args below meth c H locs ls A Rp S L)
theorem r_ishr {x y' : Int32} (hd : decode cc pc = .ok (.ishr, 1)) (kk : WP l G y cc nL ret d mc ms Q k n (pc + 1) lv (.int (x >>> (y' &&& 31)) :: st) Γ σ) : WP l G y cc nL ret d mc ms Q k n (pc) lv (.int y' :: .int x :: st) Γ σ :=
  fun p e s m args below meth c H locs ls A Rp S L => lv_ishr A.1 A.2.1 hd (kk p e s m args below meth c H locs ls A Rp S L)
theorem r_iushr {x y' : Int32} (hd : decode cc pc = .ok (.iushr, 1)) (kk : WP l G y cc nL ret d mc ms Q k n (pc + 1) lv (.int ((x.toUInt32 >>> (y'.toUInt32 &&& Int32.toUInt32 31)).toInt32) :: st) Γ σ) : WP l G y cc nL ret d mc ms Q k n (pc) lv (.int y' :: .int x :: st) Γ σ :=
  fun p e s m args below meth c H locs ls A Rp S L => lv_iushr A.1 A.2.1 hd rfl (kk p e s m args below meth c H locs ls A Rp S L)
theorem r_idiv {x y' : Int32} (hd : decode cc pc = .ok (.idiv, 1)) (hne : ¬ y' = 0) (kk : WP l G y cc nL ret d mc ms Q k n (pc + 1) lv (.int (x / y') :: st) Γ σ) : WP l G y cc nL ret d mc ms Q k n (pc) lv (.int y' :: .int x :: st) Γ σ :=
  fun p e s m args below meth c H locs ls A Rp S L => lv_idiv A.1 A.2.1 hd hne (kk p e s m args below meth c H locs ls A Rp S L)
theorem r_irem {x y' : Int32} (hd : decode cc pc = .ok (.irem, 1)) (hne : ¬ y' = 0) (kk : WP l G y cc nL ret d mc ms Q k n (pc + 1) lv (.int (x - x / y' * y') :: st) Γ σ) : WP l G y cc nL ret d mc ms Q k n (pc) lv (.int y' :: .int x :: st) Γ σ :=
  fun p e s m args below meth c H locs ls A Rp S L => lv_irem A.1 A.2.1 hd hne (kk p e s m args below meth c H locs ls A Rp S L)
theorem r_ladd {x y' : Int64} (hd : decode cc pc = .ok (.ladd, 1)) (kk : WP l G y cc nL ret d mc ms Q k n (pc + 1) lv (.long (x + y') :: st) Γ σ) : WP l G y cc nL ret d mc ms Q k n (pc) lv (.long y' :: .long x :: st) Γ σ :=
  fun p e s m args below meth c H locs ls A Rp S L => lv_ladd A.1 A.2.1 hd (kk p e s m args below meth c H locs ls A Rp S L)
theorem r_lsub {x y' : Int64} (hd : decode cc pc = .ok (.lsub, 1)) (kk : WP l G y cc nL ret d mc ms Q k n (pc + 1) lv (.long (x - y') :: st) Γ σ) : WP l G y cc nL ret d mc ms Q k n (pc) lv (.long y' :: .long x :: st) Γ σ :=
  fun p e s m args below meth c H locs ls A Rp S L => lv_lsub A.1 A.2.1 hd (kk p e s m args below meth c H locs ls A Rp S L)
theorem r_lmul {x y' : Int64} (hd : decode cc pc = .ok (.lmul, 1)) (kk : WP l G y cc nL ret d mc ms Q k n (pc + 1) lv (.long (x * y') :: st) Γ σ) : WP l G y cc nL ret d mc ms Q k n (pc) lv (.long y' :: .long x :: st) Γ σ :=
  fun p e s m args below meth c H locs ls A Rp S L => lv_lmul A.1 A.2.1 hd (kk p e s m args below meth c H locs ls A Rp S L)
theorem r_lor {x y' : Int64} (hd : decode cc pc = .ok (.lor, 1)) (kk : WP l G y cc nL ret d mc ms Q k n (pc + 1) lv (.long (x ||| y') :: st) Γ σ) : WP l G y cc nL ret d mc ms Q k n (pc) lv (.long y' :: .long x :: st) Γ σ :=
  fun p e s m args below meth c H locs ls A Rp S L => lv_lor A.1 A.2.1 hd (kk p e s m args below meth c H locs ls A Rp S L)
theorem r_ldiv {x y' : Int64} (hd : decode cc pc = .ok (.ldiv, 1)) (hne : ¬ y' = 0) (kk : WP l G y cc nL ret d mc ms Q k n (pc + 1) lv (.long (x / y') :: st) Γ σ) : WP l G y cc nL ret d mc ms Q k n (pc) lv (.long y' :: .long x :: st) Γ σ :=
  fun p e s m args below meth c H locs ls A Rp S L => lv_ldiv A.1 A.2.1 hd hne (kk p e s m args below meth c H locs ls A Rp S L)
theorem r_lrem {x y' : Int64} (hd : decode cc pc = .ok (.lrem, 1)) (hne : ¬ y' = 0) (kk : WP l G y cc nL ret d mc ms Q k n (pc + 1) lv (.long (x - x / y' * y') :: st) Γ σ) : WP l G y cc nL ret d mc ms Q k n (pc) lv (.long y' :: .long x :: st) Γ σ :=
  fun p e s m args below meth c H locs ls A Rp S L => lv_lrem A.1 A.2.1 hd hne (kk p e s m args below meth c H locs ls A Rp S L)
theorem r_lshl {x : Int64} {y' : Int32} (hd : decode cc pc = .ok (.lshl, 1)) (kk : WP l G y cc nL ret d mc ms Q k n (pc + 1) lv ((.long (x <<< (y'.toInt64 &&& 63))) :: st) Γ σ) : WP l G y cc nL ret d mc ms Q k n (pc) lv (.int y' :: .long x :: st) Γ σ :=
  fun p e s m args below meth c H locs ls A Rp S L => lv_lshl A.1 A.2.1 hd rfl (kk p e s m args below meth c H locs ls A Rp S L)
theorem r_lshr {x : Int64} {y' : Int32} (hd : decode cc pc = .ok (.lshr, 1)) (kk : WP l G y cc nL ret d mc ms Q k n (pc + 1) lv ((.long (x >>> (y'.toInt64 &&& 63))) :: st) Γ σ) : WP l G y cc nL ret d mc ms Q k n (pc) lv (.int y' :: .long x :: st) Γ σ :=
  fun p e s m args below meth c H locs ls A Rp S L => lv_lshr A.1 A.2.1 hd rfl (kk p e s m args below meth c H locs ls A Rp S L)
theorem r_i2l {x : Int32} (hd : decode cc pc = .ok (.i2l, 1)) (kk : WP l G y cc nL ret d mc ms Q k n (pc + 1) lv (.long x.toInt64 :: st) Γ σ) : WP l G y cc nL ret d mc ms Q k n (pc) lv (.int x :: st) Γ σ :=
  fun p e s m args below meth c H locs ls A Rp S L => lv_i2l A.1 A.2.1 hd rfl (kk p e s m args below meth c H locs ls A Rp S L)
theorem r_l2i {x : Int64} (hd : decode cc pc = .ok (.l2i, 1)) (kk : WP l G y cc nL ret d mc ms Q k n (pc + 1) lv (.int x.toInt32 :: st) Γ σ) : WP l G y cc nL ret d mc ms Q k n (pc) lv (.long x :: st) Γ σ :=
  fun p e s m args below meth c H locs ls A Rp S L => lv_l2i A.1 A.2.1 hd rfl (kk p e s m args below meth c H locs ls A Rp S L)
theorem r_i2b {x : Int32} (hd : decode cc pc = .ok (.i2b, 1)) (kk : WP l G y cc nL ret d mc ms Q k n (pc + 1) lv (.int x.toInt8.toInt32 :: st) Γ σ) : WP l G y cc nL ret d mc ms Q k n (pc) lv (.int x :: st) Γ σ :=
  fun p e s m args below meth c H locs ls A Rp S L => lv_i2b A.1 A.2.1 hd rfl (kk p e s m args below meth c H locs ls A Rp S L)
theorem r_i2c {x : Int32} (hd : decode cc pc = .ok (.i2c, 1)) (kk : WP l G y cc nL ret d mc ms Q k n (pc + 1) lv (.int (x.toUInt32 % 65536).toInt32 :: st) Γ σ) : WP l G y cc nL ret d mc ms Q k n (pc) lv (.int x :: st) Γ σ :=
  fun p e s m args below meth c H locs ls A Rp S L => lv_i2c A.1 A.2.1 hd rfl (kk p e s m args below meth c H locs ls A Rp S L)
theorem r_lcmp {x y' : Int64} (hd : decode cc pc = .ok (.lcmp, 1)) (kk : WP l G y cc nL ret d mc ms Q k n (pc + 1) lv (.int (lg_cmp x y') :: st) Γ σ) : WP l G y cc nL ret d mc ms Q k n (pc) lv (.long y' :: .long x :: st) Γ σ :=
  fun p e s m args below meth c H locs ls A Rp S L => W.lcmp A.1 A.2.1 hd (kk p e s m args below meth c H locs ls A Rp S L)
theorem r_dup {va : Value} (hd : decode cc pc = .ok (.dup, 1)) (hva : va.category = 1) (kk : WP l G y cc nL ret d mc ms Q k n (pc + 1) lv (va :: va :: st) Γ σ) : WP l G y cc nL ret d mc ms Q k n (pc) lv (va :: st) Γ σ :=
  fun p e s m args below meth c H locs ls A Rp S L => lv_dup A.1 A.2.1 hd hva (kk p e s m args below meth c H locs ls A Rp S L)
theorem r_pop {va : Value} (hd : decode cc pc = .ok (.pop, 1)) (hva : va.category = 1) (kk : WP l G y cc nL ret d mc ms Q k n (pc + 1) lv (st) Γ σ) : WP l G y cc nL ret d mc ms Q k n (pc) lv (va :: st) Γ σ :=
  fun p e s m args below meth c H locs ls A Rp S L => lv_pop A.1 A.2.1 hd hva (kk p e s m args below meth c H locs ls A Rp S L)
theorem r_dup_x1 {va vb : Value} (hd : decode cc pc = .ok (.dup_x1, 1)) (hva : va.category = 1) (hvb : vb.category = 1) (kk : WP l G y cc nL ret d mc ms Q k n (pc + 1) lv (va :: vb :: va :: st) Γ σ) : WP l G y cc nL ret d mc ms Q k n (pc) lv (va :: vb :: st) Γ σ :=
  fun p e s m args below meth c H locs ls A Rp S L => lv_dup_x1 A.1 A.2.1 hd hva hvb (kk p e s m args below meth c H locs ls A Rp S L)
theorem r_dup2 {va vb : Value} (hd : decode cc pc = .ok (.dup2, 1)) (hva : va.category = 1) (hvb : vb.category = 1) (kk : WP l G y cc nL ret d mc ms Q k n (pc + 1) lv (va :: vb :: va :: vb :: st) Γ σ) : WP l G y cc nL ret d mc ms Q k n (pc) lv (va :: vb :: st) Γ σ :=
  fun p e s m args below meth c H locs ls A Rp S L => lv_dup2_11 A.1 A.2.1 hd hva hvb (kk p e s m args below meth c H locs ls A Rp S L)
theorem r_if_eq {x : Int32} {off : Int} (tgt : Nat) {α : Type} {fa fb : Option α} {r : α} (hd : decode cc pc = .ok (.ifCond .eq off, 3)) (ht : (pc : Int) + off = (tgt : Int)) (hf : (if x = 0 then fa else fb) = some r) (kt : x = 0 → fa = some r → WP l G y cc nL ret d mc ms Q k n (tgt) lv (st) Γ σ) (kf : ¬ x = 0 → fb = some r → WP l G y cc nL ret d mc ms Q k n (pc + 3) lv (st) Γ σ) : WP l G y cc nL ret d mc ms Q k n (pc) lv (.int x :: st) Γ σ :=
  fun p e s m args below meth c H locs ls A Rp S L => lv_if_eq A.1 A.2.1 hd ht (fun q => kt q (by first | (rw [if_pos q] at hf; exact hf) | (rw [if_neg q] at hf; exact hf) | (rw [if_pos (by simpa using q)] at hf; exact hf)) p e s m args below meth c H locs ls A Rp S L) (fun q => kf q (by first | (rw [if_neg q] at hf; exact hf) | (rw [if_pos q] at hf; exact hf) | (rw [if_neg (by simpa using q)] at hf; exact hf)) p e s m args below meth c H locs ls A Rp S L)
theorem r_icmp_eq {x y' : Int32} {off : Int} (tgt : Nat) {α : Type} {fa fb : Option α} {r : α} (hd : decode cc pc = .ok (.if_icmp .eq off, 3)) (ht : (pc : Int) + off = (tgt : Int)) (hf : (if x = y' then fa else fb) = some r) (kt : x = y' → fa = some r → WP l G y cc nL ret d mc ms Q k n (tgt) lv (st) Γ σ) (kf : ¬ x = y' → fb = some r → WP l G y cc nL ret d mc ms Q k n (pc + 3) lv (st) Γ σ) : WP l G y cc nL ret d mc ms Q k n (pc) lv (.int y' :: .int x :: st) Γ σ :=
  fun p e s m args below meth c H locs ls A Rp S L => lv_icmp_eq A.1 A.2.1 hd ht (fun q => kt q (by first | (rw [if_pos q] at hf; exact hf) | (rw [if_neg q] at hf; exact hf) | (rw [if_pos (by simpa using q)] at hf; exact hf)) p e s m args below meth c H locs ls A Rp S L) (fun q => kf q (by first | (rw [if_neg q] at hf; exact hf) | (rw [if_pos q] at hf; exact hf) | (rw [if_neg (by simpa using q)] at hf; exact hf)) p e s m args below meth c H locs ls A Rp S L)
theorem r_if_ne {x : Int32} {off : Int} (tgt : Nat) {α : Type} {fa fb : Option α} {r : α} (hd : decode cc pc = .ok (.ifCond .ne off, 3)) (ht : (pc : Int) + off = (tgt : Int)) (hf : (if ¬ x = 0 then fa else fb) = some r) (kt : ¬ x = 0 → fa = some r → WP l G y cc nL ret d mc ms Q k n (tgt) lv (st) Γ σ) (kf : x = 0 → fb = some r → WP l G y cc nL ret d mc ms Q k n (pc + 3) lv (st) Γ σ) : WP l G y cc nL ret d mc ms Q k n (pc) lv (.int x :: st) Γ σ :=
  fun p e s m args below meth c H locs ls A Rp S L => lv_if_ne A.1 A.2.1 hd ht (fun q => kt q (by first | (rw [if_pos q] at hf; exact hf) | (rw [if_neg q] at hf; exact hf) | (rw [if_pos (by simpa using q)] at hf; exact hf)) p e s m args below meth c H locs ls A Rp S L) (fun q => kf q (by first | (rw [if_neg q] at hf; exact hf) | (rw [if_pos q] at hf; exact hf) | (rw [if_neg (by simpa using q)] at hf; exact hf)) p e s m args below meth c H locs ls A Rp S L)
theorem r_icmp_ne {x y' : Int32} {off : Int} (tgt : Nat) {α : Type} {fa fb : Option α} {r : α} (hd : decode cc pc = .ok (.if_icmp .ne off, 3)) (ht : (pc : Int) + off = (tgt : Int)) (hf : (if ¬ x = y' then fa else fb) = some r) (kt : ¬ x = y' → fa = some r → WP l G y cc nL ret d mc ms Q k n (tgt) lv (st) Γ σ) (kf : x = y' → fb = some r → WP l G y cc nL ret d mc ms Q k n (pc + 3) lv (st) Γ σ) : WP l G y cc nL ret d mc ms Q k n (pc) lv (.int y' :: .int x :: st) Γ σ :=
  fun p e s m args below meth c H locs ls A Rp S L => lv_icmp_ne A.1 A.2.1 hd ht (fun q => kt q (by first | (rw [if_pos q] at hf; exact hf) | (rw [if_neg q] at hf; exact hf) | (rw [if_pos (by simpa using q)] at hf; exact hf)) p e s m args below meth c H locs ls A Rp S L) (fun q => kf q (by first | (rw [if_neg q] at hf; exact hf) | (rw [if_pos q] at hf; exact hf) | (rw [if_neg (by simpa using q)] at hf; exact hf)) p e s m args below meth c H locs ls A Rp S L)
theorem r_if_lt {x : Int32} {off : Int} (tgt : Nat) {α : Type} {fa fb : Option α} {r : α} (hd : decode cc pc = .ok (.ifCond .lt off, 3)) (ht : (pc : Int) + off = (tgt : Int)) (hf : (if x < 0 then fa else fb) = some r) (kt : x < 0 → fa = some r → WP l G y cc nL ret d mc ms Q k n (tgt) lv (st) Γ σ) (kf : ¬ x < 0 → fb = some r → WP l G y cc nL ret d mc ms Q k n (pc + 3) lv (st) Γ σ) : WP l G y cc nL ret d mc ms Q k n (pc) lv (.int x :: st) Γ σ :=
  fun p e s m args below meth c H locs ls A Rp S L => lv_if_lt A.1 A.2.1 hd ht (fun q => kt q (by first | (rw [if_pos q] at hf; exact hf) | (rw [if_neg q] at hf; exact hf) | (rw [if_pos (by simpa using q)] at hf; exact hf)) p e s m args below meth c H locs ls A Rp S L) (fun q => kf q (by first | (rw [if_neg q] at hf; exact hf) | (rw [if_pos q] at hf; exact hf) | (rw [if_neg (by simpa using q)] at hf; exact hf)) p e s m args below meth c H locs ls A Rp S L)
theorem r_icmp_lt {x y' : Int32} {off : Int} (tgt : Nat) {α : Type} {fa fb : Option α} {r : α} (hd : decode cc pc = .ok (.if_icmp .lt off, 3)) (ht : (pc : Int) + off = (tgt : Int)) (hf : (if x < y' then fa else fb) = some r) (kt : x < y' → fa = some r → WP l G y cc nL ret d mc ms Q k n (tgt) lv (st) Γ σ) (kf : ¬ x < y' → fb = some r → WP l G y cc nL ret d mc ms Q k n (pc + 3) lv (st) Γ σ) : WP l G y cc nL ret d mc ms Q k n (pc) lv (.int y' :: .int x :: st) Γ σ :=
  fun p e s m args below meth c H locs ls A Rp S L => lv_icmp_lt A.1 A.2.1 hd ht (fun q => kt q (by first | (rw [if_pos q] at hf; exact hf) | (rw [if_neg q] at hf; exact hf) | (rw [if_pos (by simpa using q)] at hf; exact hf)) p e s m args below meth c H locs ls A Rp S L) (fun q => kf q (by first | (rw [if_neg q] at hf; exact hf) | (rw [if_pos q] at hf; exact hf) | (rw [if_neg (by simpa using q)] at hf; exact hf)) p e s m args below meth c H locs ls A Rp S L)
theorem r_if_ge {x : Int32} {off : Int} (tgt : Nat) {α : Type} {fa fb : Option α} {r : α} (hd : decode cc pc = .ok (.ifCond .ge off, 3)) (ht : (pc : Int) + off = (tgt : Int)) (hf : (if 0 ≤ x then fa else fb) = some r) (kt : 0 ≤ x → fa = some r → WP l G y cc nL ret d mc ms Q k n (tgt) lv (st) Γ σ) (kf : ¬ 0 ≤ x → fb = some r → WP l G y cc nL ret d mc ms Q k n (pc + 3) lv (st) Γ σ) : WP l G y cc nL ret d mc ms Q k n (pc) lv (.int x :: st) Γ σ :=
  fun p e s m args below meth c H locs ls A Rp S L => lv_if_ge A.1 A.2.1 hd ht (fun q => kt q (by first | (rw [if_pos q] at hf; exact hf) | (rw [if_neg q] at hf; exact hf) | (rw [if_pos (by simpa using q)] at hf; exact hf)) p e s m args below meth c H locs ls A Rp S L) (fun q => kf q (by first | (rw [if_neg q] at hf; exact hf) | (rw [if_pos q] at hf; exact hf) | (rw [if_neg (by simpa using q)] at hf; exact hf)) p e s m args below meth c H locs ls A Rp S L)
theorem r_icmp_ge {x y' : Int32} {off : Int} (tgt : Nat) {α : Type} {fa fb : Option α} {r : α} (hd : decode cc pc = .ok (.if_icmp .ge off, 3)) (ht : (pc : Int) + off = (tgt : Int)) (hf : (if y' ≤ x then fa else fb) = some r) (kt : y' ≤ x → fa = some r → WP l G y cc nL ret d mc ms Q k n (tgt) lv (st) Γ σ) (kf : ¬ y' ≤ x → fb = some r → WP l G y cc nL ret d mc ms Q k n (pc + 3) lv (st) Γ σ) : WP l G y cc nL ret d mc ms Q k n (pc) lv (.int y' :: .int x :: st) Γ σ :=
  fun p e s m args below meth c H locs ls A Rp S L => lv_icmp_ge A.1 A.2.1 hd ht (fun q => kt q (by first | (rw [if_pos q] at hf; exact hf) | (rw [if_neg q] at hf; exact hf) | (rw [if_pos (by simpa using q)] at hf; exact hf)) p e s m args below meth c H locs ls A Rp S L) (fun q => kf q (by first | (rw [if_neg q] at hf; exact hf) | (rw [if_pos q] at hf; exact hf) | (rw [if_neg (by simpa using q)] at hf; exact hf)) p e s m args below meth c H locs ls A Rp S L)
theorem r_if_gt {x : Int32} {off : Int} (tgt : Nat) {α : Type} {fa fb : Option α} {r : α} (hd : decode cc pc = .ok (.ifCond .gt off, 3)) (ht : (pc : Int) + off = (tgt : Int)) (hf : (if 0 < x then fa else fb) = some r) (kt : 0 < x → fa = some r → WP l G y cc nL ret d mc ms Q k n (tgt) lv (st) Γ σ) (kf : ¬ 0 < x → fb = some r → WP l G y cc nL ret d mc ms Q k n (pc + 3) lv (st) Γ σ) : WP l G y cc nL ret d mc ms Q k n (pc) lv (.int x :: st) Γ σ :=
  fun p e s m args below meth c H locs ls A Rp S L => lv_if_gt A.1 A.2.1 hd ht (fun q => kt q (by first | (rw [if_pos q] at hf; exact hf) | (rw [if_neg q] at hf; exact hf) | (rw [if_pos (by simpa using q)] at hf; exact hf)) p e s m args below meth c H locs ls A Rp S L) (fun q => kf q (by first | (rw [if_neg q] at hf; exact hf) | (rw [if_pos q] at hf; exact hf) | (rw [if_neg (by simpa using q)] at hf; exact hf)) p e s m args below meth c H locs ls A Rp S L)
theorem r_icmp_gt {x y' : Int32} {off : Int} (tgt : Nat) {α : Type} {fa fb : Option α} {r : α} (hd : decode cc pc = .ok (.if_icmp .gt off, 3)) (ht : (pc : Int) + off = (tgt : Int)) (hf : (if y' < x then fa else fb) = some r) (kt : y' < x → fa = some r → WP l G y cc nL ret d mc ms Q k n (tgt) lv (st) Γ σ) (kf : ¬ y' < x → fb = some r → WP l G y cc nL ret d mc ms Q k n (pc + 3) lv (st) Γ σ) : WP l G y cc nL ret d mc ms Q k n (pc) lv (.int y' :: .int x :: st) Γ σ :=
  fun p e s m args below meth c H locs ls A Rp S L => lv_icmp_gt A.1 A.2.1 hd ht (fun q => kt q (by first | (rw [if_pos q] at hf; exact hf) | (rw [if_neg q] at hf; exact hf) | (rw [if_pos (by simpa using q)] at hf; exact hf)) p e s m args below meth c H locs ls A Rp S L) (fun q => kf q (by first | (rw [if_neg q] at hf; exact hf) | (rw [if_pos q] at hf; exact hf) | (rw [if_neg (by simpa using q)] at hf; exact hf)) p e s m args below meth c H locs ls A Rp S L)
theorem r_if_le {x : Int32} {off : Int} (tgt : Nat) {α : Type} {fa fb : Option α} {r : α} (hd : decode cc pc = .ok (.ifCond .le off, 3)) (ht : (pc : Int) + off = (tgt : Int)) (hf : (if x ≤ 0 then fa else fb) = some r) (kt : x ≤ 0 → fa = some r → WP l G y cc nL ret d mc ms Q k n (tgt) lv (st) Γ σ) (kf : ¬ x ≤ 0 → fb = some r → WP l G y cc nL ret d mc ms Q k n (pc + 3) lv (st) Γ σ) : WP l G y cc nL ret d mc ms Q k n (pc) lv (.int x :: st) Γ σ :=
  fun p e s m args below meth c H locs ls A Rp S L => lv_if_le A.1 A.2.1 hd ht (fun q => kt q (by first | (rw [if_pos q] at hf; exact hf) | (rw [if_neg q] at hf; exact hf) | (rw [if_pos (by simpa using q)] at hf; exact hf)) p e s m args below meth c H locs ls A Rp S L) (fun q => kf q (by first | (rw [if_neg q] at hf; exact hf) | (rw [if_pos q] at hf; exact hf) | (rw [if_neg (by simpa using q)] at hf; exact hf)) p e s m args below meth c H locs ls A Rp S L)
theorem r_icmp_le {x y' : Int32} {off : Int} (tgt : Nat) {α : Type} {fa fb : Option α} {r : α} (hd : decode cc pc = .ok (.if_icmp .le off, 3)) (ht : (pc : Int) + off = (tgt : Int)) (hf : (if x ≤ y' then fa else fb) = some r) (kt : x ≤ y' → fa = some r → WP l G y cc nL ret d mc ms Q k n (tgt) lv (st) Γ σ) (kf : ¬ x ≤ y' → fb = some r → WP l G y cc nL ret d mc ms Q k n (pc + 3) lv (st) Γ σ) : WP l G y cc nL ret d mc ms Q k n (pc) lv (.int y' :: .int x :: st) Γ σ :=
  fun p e s m args below meth c H locs ls A Rp S L => lv_icmp_le A.1 A.2.1 hd ht (fun q => kt q (by first | (rw [if_pos q] at hf; exact hf) | (rw [if_neg q] at hf; exact hf) | (rw [if_pos (by simpa using q)] at hf; exact hf)) p e s m args below meth c H locs ls A Rp S L) (fun q => kf q (by first | (rw [if_neg q] at hf; exact hf) | (rw [if_pos q] at hf; exact hf) | (rw [if_neg (by simpa using q)] at hf; exact hf)) p e s m args below meth c H locs ls A Rp S L)
theorem r_goto {off : Int} (tgt : Nat) (hd : decode cc pc = .ok (.goto off, 3)) (ht : (pc : Int) + off = (tgt : Int)) (kk : WP l G y cc nL ret d mc ms Q k n (tgt) lv (st) Γ σ) : WP l G y cc nL ret d mc ms Q k n (pc) lv (st) Γ σ :=
  fun p e s m args below meth c H locs ls A Rp S L => lv_goto A.1 A.2.1 hd ht (kk p e s m args below meth c H locs ls A Rp S L)
end R
