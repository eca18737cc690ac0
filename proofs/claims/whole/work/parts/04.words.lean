/-! the tables' good words; what a field and a call need of them; the words' numbers -/
def gw : List Cond := lw_tbl.filter goodWord
theorem gw_of {w : Cond} (h : w ∈ lw_tbl) (g : goodWord w = true) : w ∈ gw := List.mem_filter.mpr ⟨h, g⟩
theorem gw_good : ∀ w ∈ gw, goodWord w = true := fun w h => (List.mem_filter.mp h).2
theorem in_places {ws : List Cond} (ps : List Nat) (hp : ws = ps.filterMap (fun i => lw_tbl[i]?)) (hg : ws.all goodWord = true) : ∀ w ∈ ws, w ∈ gw := by
  intro w hw
  refine gw_of ?_ (List.all_eq_true.mp hg w hw)
  rw [hp] at hw
  obtain ⟨i, -, hi⟩ := List.mem_filterMap.mp hw
  exact List.mem_of_getElem? hi
theorem gw1 {w : Cond} (i : Nat) (h : lw_tbl[i]? = some w) (g : goodWord w = true) : w ∈ gw := gw_of (List.mem_of_getElem? h) g
/-- a field, as an instruction of the class 'own' names it: class, number, kind, type, final -/
def FD (own : String) (index ci j t : Nat) (fty : FieldType) (fin : Bool) : Prop := ∃ (C : String) (T : u_T) (N : Nat) (ty : Nat → FieldType), vwCl[ci]? = some (C, T, N) ∧ c_n ci = N ∧ (∀ w ∈ u_ws C T N, w ∈ gw) ∧ (∀ k, k < N → parseFieldDescriptor (T k).2.2.1 = some (ty k)) ∧ (∀ a, a < N → ∀ b, b < N → a ≠ b → (T a).2.1 ≠ (T b).2.1) ∧ j < N ∧ c_t ci j = t ∧ ty j = fty ∧ (T j).2.2.2 = fin ∧ Cond.fieldLink own index (T j).1 (T j).2.1 (T j).2.2.1 ∈ gw
/-- what a call needs of the tables: a virtual one, a static one -/
def CVd (own : String) (index : Nat) (y2 : MethodName) (cc2 : ByteArray) (nL2 : Nat) (ret2 : Option FieldType) (np : Nat) : Prop := Cond.methodLink own index y2 ∈ gw ∧ Cond.instanceMethod y2 ∈ gw ∧ Cond.selects y2.cls y2 y2 ∈ gw ∧ Cond.initialized y2.cls ∈ gw ∧ Cond.code y2 cc2 nL2 ret2 ∈ gw ∧ nL2 ≤ 22 ∧ (y2.cls ≠ "java/lang/invoke/MethodHandle" ∧ y2.cls ≠ "java/lang/invoke/VarHandle" ∧ (parseMethodDescriptor y2.desc).map (fun d => d.parameters.length) = some np)
def CSd (own : String) (index : Nat) (y2 : MethodName) (cc2 : ByteArray) (nL2 : Nat) (ret2 : Option FieldType) (np : Nat) : Prop := Cond.methodLink own index y2 ∈ gw ∧ Cond.static y2 ∈ gw ∧ Cond.initialized y2.cls ∈ gw ∧ Cond.code y2 cc2 nL2 ret2 ∈ gw ∧ nL2 ≤ 22 ∧ (y2.cls ≠ "java/lang/invoke/MethodHandle" ∧ y2.cls ≠ "java/lang/invoke/VarHandle" ∧ (parseMethodDescriptor y2.desc).map (fun d => d.parameters.length) = some np)
def wnm : Nat → String := fun i => match i with
  | 0 => "NO"
  | 1 => "NAME"
  | 2 => "PERSON"
  | 3 => "WARMS"
  | 4 => "COOLS"
  | 5 => "GLASS"
  | 6 => "DAMP"
  | 7 => "GOOD"
  | 8 => "GRACE"
  | 9 => "WISH"
  | 10 => "EARLY"
  | 11 => "LEVEL"
  | 12 => "TURNS"
  | 13 => "WAKES"
  | 14 => "WOOS"
  | 15 => "TILTS"
  | 16 => "WIDENS"
  | 17 => "SPILLS"
  | 18 => "HOUR"
  | 19 => "OR"
  | 20 => "AND"
  | 21 => "NOT"
  | 22 => "LAPSED"
  | 23 => "RUN"
  | 24 => "ASLANT"
  | 25 => "BOTH"
  | 26 => "OF"
  | 27 => "LEFT"
  | 28 => "NECK"
  | 29 => "TURNED"
  | 30 => "NUMBER"
  | _ => ""
def wcode : Nat → Int64 := fun i => match i with
  | 0 => 0
  | 1 => 0
  | 2 => 542723566
  | 3 => 24168883
  | 4 => 3653011
  | 5 => 7734899
  | 6 => 132528
  | 7 => 245220
  | 8 => 7930981
  | 9 => 763496
  | 10 => 5294489
  | 11 => 12769452
  | 12 => 21678547
  | 13 => 24161459
  | 14 => 769523
  | 15 => 21279379
  | 16 => 781325779
  | 17 => 654619027
  | 18 => 278194
  | 19 => 498
  | 20 => 1476
  | 21 => 14836
  | 22 => 404245668
  | 23 => 19118
  | 24 => 53872084
  | 25 => 81544
  | 26 => 486
  | 27 => 398548
  | 28 => 463979
  | 29 => 693713060
  | 30 => 492210354
  | _ => 0
def swm : Nat → Int32 := fun i => match i with
  | 0 => 0
  | 1 => 0
  | 2 => 1
  | 3 => 2
  | 4 => 3
  | 5 => 4
  | 6 => 5
  | 7 => 6
  | 8 => 7
  | 9 => 8
  | 10 => 9
  | 11 => 10
  | 12 => 11
  | 13 => 12
  | 14 => 13
  | 15 => 14
  | 16 => 15
  | 17 => 16
  | 18 => 0
  | 19 => 24
  | 20 => 23
  | 21 => 17
  | 22 => 18
  | 23 => 19
  | 24 => 20
  | 25 => 21
  | 26 => 22
  | 27 => 25
  | 28 => 26
  | 29 => 27
  | 30 => 0
  | _ => 0
/-- what a copy needs of the tables -/
def CPd (own : String) (index : Nat) : Prop := Cond.methodLink own index arraycopyName ∈ gw ∧ Cond.native arraycopyName ∈ gw ∧ Cond.static arraycopyName ∈ gw ∧ Cond.initialized "java/lang/System" ∈ gw
/-- what an inherited call needs of the tables -/
def CUd (own : String) (index : Nat) (x y2 : MethodName) (cc2 : ByteArray) (nL2 : Nat) (ret2 : Option FieldType) (np : Nat) : Prop := (∀ w ∈ ([.methodLink own index x, .sameMethod x.cls y2.cls x.name x.desc, .selects x.cls x y2, .instanceMethod y2, .initialized y2.cls, .code y2 cc2 nL2 ret2] : List Cond), w ∈ gw) ∧ nL2 ≤ 22 ∧ y2 = ⟨y2.cls, x.name, x.desc⟩ ∧ (y2.cls ≠ "java/lang/invoke/MethodHandle" ∧ y2.cls ≠ "java/lang/invoke/VarHandle" ∧ (parseMethodDescriptor x.desc).map (fun d => d.parameters.length) = some np)
