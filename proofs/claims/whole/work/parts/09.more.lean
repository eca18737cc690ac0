/-! Rules for the words' constants, for references that are stored, for copies. -/
def ldW {α : Type} (i : Int32) (F : Nat → Option α) : Option α := if inb i 31 = true then F i.toNatClampNeg else none
def ldS {α : Type} (i : Int32) (F : Int32 → Option α) : Option α := if inb i 31 = true then F (swm i.toNatClampNeg) else none
def ldR {α : Type} (S : Nat → Nat × Nat) (σ : mm) (a : Nat) (i : Int32) (F : Nat → Option α) : Option α := if inb i (S a).2 = true then (σ.2.2 a i.toNatClampNeg).bind F else none
def stR {α : Type} (S : Nat → Nat × Nat) (σ : mm) (a : Nat) (i : Int32) (b : Nat) (F : mm → Option α) : Option α := if inb i (S a).2 = true then F (σ.1, σ.2.1, up2 σ.2.2 a i.toNatClampNeg (some b)) else none
def wR {α : Type} (σ : mm) (a j b : Nat) (F : mm → Option α) : Option α := F (σ.1, σ.2.1, up2 σ.2.2 a j (some b))
def ckW {α : Type} (b : Nat) (x : Option α) : Option α := if b < 31 then x else none
theorem ckW_some {α : Type} {b : Nat} {x : Option α} {r : α} (h : ckW b x = some r) : b < 31 ∧ x = some r := by
  unfold ckW at h
  by_cases q : b < 31
  · rw [if_pos q] at h; exact ⟨q, h⟩
  · rw [if_neg q] at h; cases h
def cpk (sp dp n : Int32) (n0 n1 : Nat) : Bool := !(decide (sp < 0)) && !(decide (dp < 0)) && !(decide (n < 0)) && decide (sp.toNatClampNeg + n.toNatClampNeg ≤ n0) && decide (dp.toNatClampNeg + n.toNatClampNeg ≤ n1)
def up1 {α : Type} (f : Nat → Nat → α) (b : Nat) (g : Nat → α) : Nat → Nat → α := fun k => if k = b then g else f k
def cpI {α : Type} (S : Nat → Nat × Nat) (σ : mm) (a : Nat) (sp : Int32) (b : Nat) (dp n : Int32) (F : mm → Option α) : Option α := if cpk sp dp n (S a).2 (S b).2 = true then F (up1 σ.1 b (va_cpy (σ.1 a) (σ.1 b) sp.toNatClampNeg dp.toNatClampNeg n.toNatClampNeg), σ.2.1, σ.2.2) else none
def cpL {α : Type} (S : Nat → Nat × Nat) (σ : mm) (a : Nat) (sp : Int32) (b : Nat) (dp n : Int32) (F : mm → Option α) : Option α := if cpk sp dp n (S a).2 (S b).2 = true then F (σ.1, up1 σ.2.1 b (va_cpy (σ.2.1 a) (σ.2.1 b) sp.toNatClampNeg dp.toNatClampNeg n.toNatClampNeg), σ.2.2) else none
theorem up1_ne {α : Type} {f : Nat → Nat → α} {b : Nat} {g : Nat → α} {k : Nat} (h : k ≠ b) : up1 f b g k = f k := by simp [up1, h]
theorem up1_eq {α : Type} {f : Nat → Nat → α} {b : Nat} {g : Nat → α} : up1 f b g b = g := by simp [up1]
theorem asg_refl (vm : Vm) (c : ClassId) : vm.assignable c c = true := by
  show Vm.assignableAux vm (255 + 1) c c = true
  rw [Vm.assignableAux]
  simp
theorem tyW {Γ : ly} {i : Nat} (h : i < 31) : tyOK Γ (100, 0) i := h
theorem cpk_spec {sp dp n : Int32} {n0 n1 : Nat} (h : cpk sp dp n n0 n1 = true) : ¬ sp < 0 ∧ ¬ dp < 0 ∧ ¬ n < 0 ∧ sp.toNatClampNeg + n.toNatClampNeg ≤ n0 ∧ dp.toNatClampNeg + n.toNatClampNeg ≤ n1 := by
  simp only [cpk, Bool.and_eq_true, Bool.not_eq_true', decide_eq_false_iff_not, decide_eq_true_eq] at h
  exact ⟨h.1.1.1.1, h.1.1.1.2, h.1.1.2, h.1.2, h.2⟩
def mxI (x y : Int32) : Int32 := if x < y then y else x
def mnI (x y : Int32) : Int32 := if y < x then y else x
def MXd (own : String) (index : Nat) : Prop := Cond.methodLink own index Lib.Math.max.name ∈ gw ∧ Cond.static Lib.Math.max.name ∈ gw ∧ Cond.initialized "java/lang/Math" ∈ gw ∧ Cond.code Lib.Math.max.name Lib.Math.max.code 2 (some .int) ∈ gw
def MNd (own : String) (index : Nat) : Prop := Cond.methodLink own index Lib.Math.min.name ∈ gw ∧ Cond.static Lib.Math.min.name ∈ gw ∧ Cond.initialized "java/lang/Math" ∈ gw ∧ Cond.code Lib.Math.min.name Lib.Math.min.code 2 (some .int) ∈ gw
section E
variable {l : Launch} {G : gg} {y : MethodName} {cc : ByteArray} {nL : Nat} {ret : Option FieldType} {d mc ms : Nat} {Q : Option Value → ly → mm → Prop} {k n pc : Nat} {lv : List (Nat × Value)} {st : List Value} {Γ : ly} {σ : mm} {a : Nat}
theorem r_word {index : Nat} (i : Nat) (hd : decode cc pc = .ok (.getstatic index, 3)) (hl : Cond.fieldLink y.cls index "GlassVows$Word" (wnm i) "LGlassVows$Word;" ∈ gw) (hi : i < 31) (kk : WP l G y cc nL ret d mc ms Q k n (pc + 3) lv (.ref (G.2.1 i) :: st) Γ σ) : WP l G y cc nL ret d mc ms Q k n pc lv st Γ σ :=
  fun p e s m args below meth c H locs ls A Rp S L => va_gets A.1 A.2.1 (A.2.2.2.2.2.2.2.2.2.2.1.1 i hi) S A.2.2.2.1 (A.2.2.2.2.1 _ (List.mem_cons_of_mem _ hl)) (fun _ h => h) hd (kk p e s m args below meth c H locs ls A Rp S L)
theorem r_all {index : Nat} (hd : decode cc pc = .ok (.getstatic index, 3)) (hl : Cond.fieldLink y.cls index "GlassVows$Word" "ALL" "[LGlassVows$Word;" ∈ gw) (kk : WP l G y cc nL ret d mc ms Q k n (pc + 3) lv (.ref (G.2.1 31) :: st) Γ σ) : WP l G y cc nL ret d mc ms Q k n pc lv st Γ σ :=
  fun p e s m args below meth c H locs ls A Rp S L => va_gets A.1 A.2.1 A.2.2.2.2.2.2.2.2.2.2.1.2.2.2.2.2.1 S A.2.2.2.1 (A.2.2.2.2.1 _ (List.mem_cons_of_mem _ hl)) (fun _ h => h) hd (kk p e s m args below meth c H locs ls A Rp S L)
theorem r_swm {index : Nat} (hd : decode cc pc = .ok (.getstatic index, 3)) (hl : Cond.fieldLink y.cls index "GlassVows$1" "$SwitchMap$GlassVows$Word" "[I" ∈ gw) (kk : WP l G y cc nL ret d mc ms Q k n (pc + 3) lv (.ref (G.2.1 32) :: st) Γ σ) : WP l G y cc nL ret d mc ms Q k n pc lv st Γ σ :=
  fun p e s m args below meth c H locs ls A Rp S L => va_gets A.1 A.2.1 A.2.2.2.2.2.2.2.2.2.2.1.2.2.2.2.2.2.2.1 S A.2.2.2.1 (A.2.2.2.2.1 _ (List.mem_cons_of_mem _ hl)) (fun _ h => h) hd (kk p e s m args below meth c H locs ls A Rp S L)
theorem r_allen (hd : decode cc pc = .ok (.arraylength, 1)) (kk : WP l G y cc nL ret d mc ms Q k n (pc + 1) lv (.int 31 :: st) Γ σ) : WP l G y cc nL ret d mc ms Q k n pc lv (.ref (G.2.1 31) :: st) Γ σ :=
  fun p e s m args below meth c H locs ls A Rp S L => va_tlen A.1 A.2.1 A.2.2.2.2.2.2.2.2.2.2.1.2.2.2.2.2.2.1 S (by decide) hd (kk p e s m args below meth c H locs ls A Rp S L)
theorem q_allld {i : Int32} {α : Type} {F : Nat → Option α} {r : α} (hd : decode cc pc = .ok (.aaload, 1)) (hf : ldW i F = some r) (kk : ∀ b, tyOK Γ (100, 0) b → F b = some r → WP l G y cc nL ret d mc ms Q k n (pc + 1) lv (.ref (G.2.1 b) :: st) Γ σ) : WP l G y cc nL ret d mc ms Q k n pc lv (.int i :: .ref (G.2.1 31) :: st) Γ σ := by
  intro p e s m args below meth c H locs ls A Rp S L
  obtain ⟨hin, hf⟩ := inb_if hf
  have hlt : i.toNatClampNeg < 31 := Nat.not_le.mp fun q => hin (Or.inr q)
  exact vb_tq A.1 A.2.1 A.2.2.2.2.2.2.2.2.2.2.1.2.2.2.2.2.2.1 S hin rfl hd (kk _ hlt hf p e s m args below meth c H locs ls A Rp S L)
theorem q_swmld {i : Int32} {α : Type} {F : Int32 → Option α} {r : α} (hd : decode cc pc = .ok (.iaload, 1)) (hf : ldS i F = some r) (kk : ∀ v, F v = some r → WP l G y cc nL ret d mc ms Q k n (pc + 1) lv (.int v :: st) Γ σ) : WP l G y cc nL ret d mc ms Q k n pc lv (.int i :: .ref (G.2.1 32) :: st) Γ σ := by
  intro p e s m args below meth c H locs ls A Rp S L
  obtain ⟨hin, hf⟩ := inb_if hf
  exact va_ti A.1 A.2.1 A.2.2.2.2.2.2.2.2.2.2.1.2.2.2.2.2.2.2.2.1 S hin rfl hd (kk _ hf p e s m args below meth c H locs ls A Rp S L)
theorem r_wcode {index : Nat} (hd : decode cc pc = .ok (.getfield index, 3)) (hl : Cond.fieldLink y.cls index "GlassVows$Word" "code" "J" ∈ gw) (ht : tyOK Γ (100, 0) a) (kk : WP l G y cc nL ret d mc ms Q k n (pc + 3) lv (.long (wcode a) :: st) Γ σ) : WP l G y cc nL ret d mc ms Q k n pc lv (.ref (G.2.1 a) :: st) Γ σ :=
  fun p e s m args below meth c H locs ls A Rp S L => va_getX A.1 A.2.1 A.2.2.2.2.2.2.2.2.2.2.1.2.2.2.1 ht S A.2.2.2.1 (A.2.2.2.2.1 _ (List.mem_cons_of_mem _ hl)) (fun _ h => h) hd (kk p e s m args below meth c H locs ls A Rp S L)
theorem r_word_ord {index : Nat} (hd : decode cc pc = .ok (.getfield index, 3)) (hl : Cond.fieldLink y.cls index "java/lang/Enum" "ordinal" "I" ∈ gw) (ht : tyOK Γ (100, 0) a) (kk : WP l G y cc nL ret d mc ms Q k n (pc + 3) lv (.int (Int32.ofNat a) :: st) Γ σ) : WP l G y cc nL ret d mc ms Q k n pc lv (.ref (G.2.1 a) :: st) Γ σ :=
  fun p e s m args below meth c H locs ls A Rp S L => va_getX A.1 A.2.1 A.2.2.2.2.2.2.2.2.2.2.1.2.2.1 ht S A.2.2.2.1 (A.2.2.2.2.1 _ (List.mem_cons_of_mem _ hl)) (fun _ h => h) hd (kk p e s m args below meth c H locs ls A Rp S L)
theorem r_acmp_eq {b : Nat} {off : Int} (tgt : Nat) {α : Type} {fa fb : Option α} {r : α} (hd : decode cc pc = .ok (.if_acmp .eq off, 3)) (ht : (pc : Int) + off = (tgt : Int)) (ha : tyOK Γ (100, 0) a) (hb : tyOK Γ (100, 0) b) (hf : (if a = b then fa else fb) = some r) (kt : a = b → fa = some r → WP l G y cc nL ret d mc ms Q k n tgt lv st Γ σ) (kf : ¬ a = b → fb = some r → WP l G y cc nL ret d mc ms Q k n (pc + 3) lv st Γ σ) : WP l G y cc nL ret d mc ms Q k n pc lv (.ref (G.2.1 b) :: .ref (G.2.1 a) :: st) Γ σ := by
  intro p e s m args below meth c H locs ls A Rp S L
  refine lv_acmp_eq (rx := some (G.2.1 a)) (ry := some (G.2.1 b)) A.1 A.2.1 hd ht (fun q => ?_) (fun q => ?_)
  · have q2 : a = b := A.2.2.2.2.2.2.2.2.2.2.1.2.2.2.2.1 a b ha hb (Option.some.inj q)
    exact kt q2 (by rw [if_pos q2] at hf; exact hf) p e s m args below meth c H locs ls A Rp S L
  · have q2 : ¬ a = b := fun z => q (by rw [z])
    exact kf q2 (by rw [if_neg q2] at hf; exact hf) p e s m args below meth c H locs ls A Rp S L
theorem r_acmp_ne {b : Nat} {off : Int} (tgt : Nat) {α : Type} {fa fb : Option α} {r : α} (hd : decode cc pc = .ok (.if_acmp .ne off, 3)) (ht : (pc : Int) + off = (tgt : Int)) (ha : tyOK Γ (100, 0) a) (hb : tyOK Γ (100, 0) b) (hf : (if ¬ a = b then fa else fb) = some r) (kt : ¬ a = b → fa = some r → WP l G y cc nL ret d mc ms Q k n tgt lv st Γ σ) (kf : a = b → fb = some r → WP l G y cc nL ret d mc ms Q k n (pc + 3) lv st Γ σ) : WP l G y cc nL ret d mc ms Q k n pc lv (.ref (G.2.1 b) :: .ref (G.2.1 a) :: st) Γ σ := by
  intro p e s m args below meth c H locs ls A Rp S L
  refine lv_acmp_ne (rx := some (G.2.1 a)) (ry := some (G.2.1 b)) A.1 A.2.1 hd ht (fun q => ?_) (fun q => ?_)
  · have q2 : ¬ a = b := fun z => q (by rw [z])
    exact kt q2 (by rw [if_pos q2] at hf; exact hf) p e s m args below meth c H locs ls A Rp S L
  · have q2 : a = b := A.2.2.2.2.2.2.2.2.2.2.1.2.2.2.2.1 a b ha hb (Option.some.inj q)
    exact kf q2 (by rw [if_neg (fun z => z q2)] at hf; exact hf) p e s m args below meth c H locs ls A Rp S L
theorem r_areturn {b : Nat} {rt : FieldType} (hd : decode cc pc = .ok (.areturn, 1)) (hr : ret = some rt) (hrt : (∃ n, rt = .object n) ∨ ∃ t, rt = .array t) (hq : Q (some (.ref (G.2.1 b))) Γ σ) (hk : k ≤ mc) (hn : n ≤ ms) : WP l G y cc nL ret d mc ms Q k n pc lv [.ref (G.2.1 b)] Γ σ := by
  intro p e s m args below meth c H locs ls A Rp S L
  exact W.widen hk hn (W.aret A.1 A.2.1 (A.2.2.2.2.2.1.trans hr) hrt (Or.inr ⟨_, rfl⟩) (fun t ht hW => ⟨⟨_, Γ, σ, rfl, hq, by rw [ht]; exact Rp⟩, S.F ht⟩) S.2.2 hd A.2.2.2.2.2.2.1)
theorem wtp_put {ci j b : Nat} (hw : wtp Γ σ) (ht : tyOK Γ (0, ci) a) (hb : tyOK Γ (c_r ci j) b) : wtp Γ (σ.1, σ.2.1, up2 σ.2.2 a j (some b)) := by
  intro k hk hk2
  obtain ⟨g1, g2, g3⟩ := id ht
  refine ⟨fun h0 i hi hi2 b' hb' => ?_, fun h5 h8 i hi b' hb' => ?_⟩
  · by_cases hka : k = a
    · subst hka
      simp only [up2, if_true] at hb'
      by_cases hij : i = j
      · subst hij
        rw [if_pos rfl] at hb'
        cases hb'
        rw [g3]
        exact hb
      · rw [if_neg hij] at hb'
        exact (hw k hk hk2).1 h0 i hi hi2 b' hb'
    · simp only [up2, if_neg hka] at hb'
      exact (hw k hk hk2).1 h0 i hi hi2 b' hb'
  · by_cases hka : k = a
    · subst hka
      rw [g3] at h5
      simp at h5
    · simp only [up2, if_neg hka] at hb'
      exact (hw k hk hk2).2 h5 h8 i hi b' hb'
theorem wtp_st {t i b : Nat} (hw : wtp Γ σ) (h5 : 5 ≤ t) (h8 : t ≤ 8) (ht : (Γ.2 a).1 = t) (hb : tyOK Γ (a_r t) b) : wtp Γ (σ.1, σ.2.1, up2 σ.2.2 a i (some b)) := by
  intro k hk hk2
  refine ⟨fun h0 j hj hj2 b' hb' => ?_, fun g5 g8 j hj b' hb' => ?_⟩
  · by_cases hka : k = a
    · subst hka
      rw [ht] at h0
      omega
    · simp only [up2, if_neg hka] at hb'
      exact (hw k hk hk2).1 h0 j hj hj2 b' hb'
  · by_cases hka : k = a
    · subst hka
      simp only [up2, if_true] at hb'
      by_cases hij : j = i
      · rw [if_pos hij] at hb'
        cases hb'
        rw [ht]
        exact hb
      · rw [if_neg hij] at hb'
        exact (hw k hk hk2).2 g5 g8 j hj b' hb'
    · simp only [up2, if_neg hka] at hb'
      exact (hw k hk hk2).2 g5 g8 j hj b' hb'
theorem q_putR {index ci j b : Nat} {fty : FieldType} {e9 : Nat × Nat} {α : Type} {F : mm → Option α} {r : α} (hd : decode cc pc = .ok (.putfield index, 3)) (D : FD y.cls index ci j 2 fty false) (hfo : ∃ C, fty = .object C) (ht : tyOK Γ (0, ci) a) (he : c_r ci j = e9) (hb : tyOK Γ e9 b) (hf : wR σ a j b F = some r) (kk : ∀ σ', F σ' = some r → WP l G y cc nL ret d mc ms Q k n (pc + 3) lv st Γ σ') : WP l G y cc nL ret d mc ms Q k n pc lv (.ref (G.2.1 b) :: .ref (G.2.1 a) :: st) Γ σ := by
  have hkt : c_t ci j = 2 := by obtain ⟨C, T, N, ty, hc, hN, hin, hty, hnm, hj, hkt, -⟩ := D; exact hkt
  obtain ⟨C9, rfl⟩ := hfo
  refine r_put (σ' := (σ.1, σ.2.1, up2 σ.2.2 a j (some b))) hd D ht rfl rfl (fun _ _ => rfl) (fun _ _ => rfl) (fun k hk => up2_ne hk) (fun h => wtp_put h ht (he ▸ hb)) (fun i hi => ?_) (kk _ hf)
  by_cases hij : i = j
  · subst hij
    rw [if_pos rfl, hkt]
    simp [h_v, up2, va_rf]
  · rw [if_neg hij]
    unfold h_v
    simp [up2_eq, hij]
theorem q_aald5 {i : Int32} {α : Type} {F : Nat → Option α} {r : α} (hd : decode cc pc = .ok (.aaload, 1)) (ht : tyOK Γ (5, 0) a) (hf : ldR Γ.2 σ a i F = some r) (kk : ∀ b, tyOK Γ (a_r 5) b → F b = some r → WP l G y cc nL ret d mc ms Q k n (pc + 1) lv (.ref (G.2.1 b) :: st) Γ σ) : WP l G y cc nL ret d mc ms Q k n pc lv (.int i :: .ref (G.2.1 a) :: st) Γ σ := by
  intro p e s m args below meth c H locs ls A Rp S L
  obtain ⟨h1, h2, h3⟩ := ht
  obtain ⟨hin, hf⟩ := inb_if hf
  obtain ⟨b, hb, hfb⟩ := Option.bind_eq_some_iff.mp hf
  have hlt : i.toNatClampNeg < (Γ.2 a).2 := Nat.not_le.mp fun q => hin (Or.inr q)
  have hat := Rp.2.2.2 a (.inl (G.2.2.2.1 5, (Γ.2 a).2, .inr (.inr (.inr (.inr fun j => (σ.2.2 a j).map G.2.1))))) h1 h2 (by unfold h_cell; rw [h3] <;> rfl)
  have hty : tyOK Γ (a_r 5) b := by
    have h3' : (Γ.2 a).1 = 5 := h3
    have h := (Rp.2.2.1 a h1 h2).2 (by rw [h3']; decide) (by rw [h3']; decide) _ hlt b hb
    rw [h3'] at h
    exact h
  refine va_aldq A.1 A.2.1 A.2.2.2.2.2.2.2.2.1 (one_P hat) 0 5 rfl rfl hin hd ?_
  rw [hb]
  exact kk b hty hfb p e s m args below meth c H locs ls A Rp S L
theorem q_aast5 {i : Int32} {b : Nat} {α : Type} {F : mm → Option α} {r : α} (hd : decode cc pc = .ok (.aastore, 1)) (ht : tyOK Γ (5, 0) a) (hb : tyOK Γ (a_r 5) b) (hf : stR Γ.2 σ a i b F = some r) (kk : ∀ σ', F σ' = some r → WP l G y cc nL ret d mc ms Q k n (pc + 1) lv st Γ σ') : WP l G y cc nL ret d mc ms Q k n pc lv (.ref (G.2.1 b) :: .int i :: .ref (G.2.1 a) :: st) Γ σ := by
  intro p e s m args below meth c H locs ls A Rp S L
  obtain ⟨h1, h2, h3⟩ := id ht
  obtain ⟨hin, hf⟩ := inb_if hf
  have hKK := A.2.2.2.2.2.2.2.2
  have hts : ∀ w ∈ gw, w.before args s = true := fun w h => A.2.2.2.2.1 w (List.mem_cons_of_mem _ h)
  have hlt : i.toNatClampNeg < (Γ.2 a).2 := Nat.not_le.mp fun q => hin (Or.inr q)
  have h0 : ¬ i < 0 := fun q => hin (Or.inl q)
  have hat := Rp.2.2.2 a (.inl (G.2.2.2.1 5, (Γ.2 a).2, .inr (.inr (.inr (.inr fun j => (σ.2.2 a j).map G.2.1))))) h1 h2 (by unfold h_cell; rw [h3] <;> rfl)
  have hany : va_Any "GlassVows$Life" s H (G.2.1 b) := va_rAny hKK.1 (one_P (Rp.obj (ci := 3) hb)) (q0 := 0) rfl (show vwCl[3]? = some _ from rfl) (fun comp c0 g1 g2 => by
    cases Option.some.inj (g1.symm.trans g2)
    have hca := (hKK.1.1 3 _ rfl).2
    cases Option.some.inj (hca.1.symm.trans g1)
    exact va_assign hca)
  obtain ⟨cellV, g1, g3, ⟨kC, hkC⟩, hasg⟩ := hany
  obtain ⟨kA, comp, k1, k2, k3, -⟩ := (hKK.1.2 5 _ rfl).2
  obtain ⟨kE, hkE, -⟩ := Vm.findClass_spec k3
  refine W.aast A.1 A.2.1 hat (fun q h => by cases h) (fun h => by cases h) k1 k2 rfl hkE ⟨h0, by show _ < (arrV _ _ _).slots.size; rw [arrV_size]; exact hlt⟩ g1 (fun q h => by rw [h] at g3; cases g3) hkC (hasg _ k3) rfl rfl hd fun H1 e1 z oq => ?_
  refine kk _ hf p e s m args below meth c H1 _ ls A (Rp.store (σ' := (σ.1, σ.2.1, up2 σ.2.2 a i.toNatClampNeg (some b))) hKK.2.1 h1 (fun _ _ => rfl) (fun _ _ => rfl) (fun k hk => up2_ne hk) z oq (wtp_st Rp.2.2.1 (by decide) (by decide) h3 hb) ?_) (S.put z oq (Rp.own hKK.2.1 h1 h2 (by rw [h3]; decide))) L
  intro e he
  have he2 : h_cell G (Γ.2 a) (σ.1, σ.2.1, up2 σ.2.2 a i.toNatClampNeg (some b)) a = some (.inl (G.2.2.2.1 5, (Γ.2 a).2, .inr (.inr (.inr (.inr fun j => (up2 σ.2.2 a i.toNatClampNeg (some b) a j).map G.2.1))))) := by unfold h_cell; rw [h3] <;> rfl
  rw [he2] at he
  cases he
  show H1[G.2.1 a]? = some (vp_cell _ _)
  rw [e1]
  rw [vp_cell_q, vp_cell_q, arrV_store]
  congr 2
  funext q
  by_cases hq : q = i.toNatClampNeg
  · subst hq
    simp [updV, up2, va_rf]
  · simp [updV, up2, hq]
theorem q_aald6 {i : Int32} {α : Type} {F : Nat → Option α} {r : α} (hd : decode cc pc = .ok (.aaload, 1)) (ht : tyOK Γ (6, 0) a) (hf : ldR Γ.2 σ a i F = some r) (kk : ∀ b, tyOK Γ (a_r 6) b → F b = some r → WP l G y cc nL ret d mc ms Q k n (pc + 1) lv (.ref (G.2.1 b) :: st) Γ σ) : WP l G y cc nL ret d mc ms Q k n pc lv (.int i :: .ref (G.2.1 a) :: st) Γ σ := by
  intro p e s m args below meth c H locs ls A Rp S L
  obtain ⟨h1, h2, h3⟩ := ht
  obtain ⟨hin, hf⟩ := inb_if hf
  obtain ⟨b, hb, hfb⟩ := Option.bind_eq_some_iff.mp hf
  have hlt : i.toNatClampNeg < (Γ.2 a).2 := Nat.not_le.mp fun q => hin (Or.inr q)
  have hat := Rp.2.2.2 a (.inl (G.2.2.2.1 6, (Γ.2 a).2, .inr (.inr (.inr (.inr fun j => (σ.2.2 a j).map G.2.1))))) h1 h2 (by unfold h_cell; rw [h3] <;> rfl)
  have hty : tyOK Γ (a_r 6) b := by
    have h3' : (Γ.2 a).1 = 6 := h3
    have h := (Rp.2.2.1 a h1 h2).2 (by rw [h3']; decide) (by rw [h3']; decide) _ hlt b hb
    rw [h3'] at h
    exact h
  refine va_aldq A.1 A.2.1 A.2.2.2.2.2.2.2.2.1 (one_P hat) 0 6 rfl rfl hin hd ?_
  rw [hb]
  exact kk b hty hfb p e s m args below meth c H locs ls A Rp S L
theorem q_aast6 {i : Int32} {b : Nat} {α : Type} {F : mm → Option α} {r : α} (hd : decode cc pc = .ok (.aastore, 1)) (ht : tyOK Γ (6, 0) a) (hb : tyOK Γ (a_r 6) b) (hf : stR Γ.2 σ a i b F = some r) (kk : ∀ σ', F σ' = some r → WP l G y cc nL ret d mc ms Q k n (pc + 1) lv st Γ σ') : WP l G y cc nL ret d mc ms Q k n pc lv (.ref (G.2.1 b) :: .int i :: .ref (G.2.1 a) :: st) Γ σ := by
  intro p e s m args below meth c H locs ls A Rp S L
  obtain ⟨h1, h2, h3⟩ := id ht
  obtain ⟨hin, hf⟩ := inb_if hf
  have hKK := A.2.2.2.2.2.2.2.2
  have hts : ∀ w ∈ gw, w.before args s = true := fun w h => A.2.2.2.2.1 w (List.mem_cons_of_mem _ h)
  have hlt : i.toNatClampNeg < (Γ.2 a).2 := Nat.not_le.mp fun q => hin (Or.inr q)
  have h0 : ¬ i < 0 := fun q => hin (Or.inl q)
  have hat := Rp.2.2.2 a (.inl (G.2.2.2.1 6, (Γ.2 a).2, .inr (.inr (.inr (.inr fun j => (σ.2.2 a j).map G.2.1))))) h1 h2 (by unfold h_cell; rw [h3] <;> rfl)
  have hany : va_Any "GlassVows$Parish" s H (G.2.1 b) := va_rAny hKK.1 (one_P (Rp.obj (ci := 4) hb)) (q0 := 0) rfl (show vwCl[4]? = some _ from rfl) (fun comp c0 g1 g2 => by
    cases Option.some.inj (g1.symm.trans g2)
    have hca := (hKK.1.1 4 _ rfl).2
    cases Option.some.inj (hca.1.symm.trans g1)
    exact va_assign hca)
  obtain ⟨cellV, g1, g3, ⟨kC, hkC⟩, hasg⟩ := hany
  obtain ⟨kA, comp, k1, k2, k3, -⟩ := (hKK.1.2 6 _ rfl).2
  obtain ⟨kE, hkE, -⟩ := Vm.findClass_spec k3
  refine W.aast A.1 A.2.1 hat (fun q h => by cases h) (fun h => by cases h) k1 k2 rfl hkE ⟨h0, by show _ < (arrV _ _ _).slots.size; rw [arrV_size]; exact hlt⟩ g1 (fun q h => by rw [h] at g3; cases g3) hkC (hasg _ k3) rfl rfl hd fun H1 e1 z oq => ?_
  refine kk _ hf p e s m args below meth c H1 _ ls A (Rp.store (σ' := (σ.1, σ.2.1, up2 σ.2.2 a i.toNatClampNeg (some b))) hKK.2.1 h1 (fun _ _ => rfl) (fun _ _ => rfl) (fun k hk => up2_ne hk) z oq (wtp_st Rp.2.2.1 (by decide) (by decide) h3 hb) ?_) (S.put z oq (Rp.own hKK.2.1 h1 h2 (by rw [h3]; decide))) L
  intro e he
  have he2 : h_cell G (Γ.2 a) (σ.1, σ.2.1, up2 σ.2.2 a i.toNatClampNeg (some b)) a = some (.inl (G.2.2.2.1 6, (Γ.2 a).2, .inr (.inr (.inr (.inr fun j => (up2 σ.2.2 a i.toNatClampNeg (some b) a j).map G.2.1))))) := by unfold h_cell; rw [h3] <;> rfl
  rw [he2] at he
  cases he
  show H1[G.2.1 a]? = some (vp_cell _ _)
  rw [e1]
  rw [vp_cell_q, vp_cell_q, arrV_store]
  congr 2
  funext q
  by_cases hq : q = i.toNatClampNeg
  · subst hq
    simp [updV, up2, va_rf]
  · simp [updV, up2, hq]
theorem q_aald7 {i : Int32} {α : Type} {F : Nat → Option α} {r : α} (hd : decode cc pc = .ok (.aaload, 1)) (ht : tyOK Γ (7, 0) a) (hf : ldR Γ.2 σ a i F = some r) (kk : ∀ b, tyOK Γ (a_r 7) b → F b = some r → WP l G y cc nL ret d mc ms Q k n (pc + 1) lv (.ref (G.2.1 b) :: st) Γ σ) : WP l G y cc nL ret d mc ms Q k n pc lv (.int i :: .ref (G.2.1 a) :: st) Γ σ := by
  intro p e s m args below meth c H locs ls A Rp S L
  obtain ⟨h1, h2, h3⟩ := ht
  obtain ⟨hin, hf⟩ := inb_if hf
  obtain ⟨b, hb, hfb⟩ := Option.bind_eq_some_iff.mp hf
  have hlt : i.toNatClampNeg < (Γ.2 a).2 := Nat.not_le.mp fun q => hin (Or.inr q)
  have hat := Rp.2.2.2 a (.inl (G.2.2.2.1 7, (Γ.2 a).2, .inr (.inr (.inr (.inr fun j => (σ.2.2 a j).map G.2.1))))) h1 h2 (by unfold h_cell; rw [h3] <;> rfl)
  have hty : tyOK Γ (a_r 7) b := by
    have h3' : (Γ.2 a).1 = 7 := h3
    have h := (Rp.2.2.1 a h1 h2).2 (by rw [h3']; decide) (by rw [h3']; decide) _ hlt b hb
    rw [h3'] at h
    exact h
  refine va_aldq A.1 A.2.1 A.2.2.2.2.2.2.2.2.1 (one_P hat) 0 7 rfl rfl hin hd ?_
  rw [hb]
  exact kk b hty hfb p e s m args below meth c H locs ls A Rp S L
theorem q_aast7 {i : Int32} {b : Nat} {α : Type} {F : mm → Option α} {r : α} (hd : decode cc pc = .ok (.aastore, 1)) (ht : tyOK Γ (7, 0) a) (hb : tyOK Γ (a_r 7) b) (hf : stR Γ.2 σ a i b F = some r) (kk : ∀ σ', F σ' = some r → WP l G y cc nL ret d mc ms Q k n (pc + 1) lv st Γ σ') : WP l G y cc nL ret d mc ms Q k n pc lv (.ref (G.2.1 b) :: .int i :: .ref (G.2.1 a) :: st) Γ σ := by
  intro p e s m args below meth c H locs ls A Rp S L
  obtain ⟨h1, h2, h3⟩ := id ht
  obtain ⟨hin, hf⟩ := inb_if hf
  have hKK := A.2.2.2.2.2.2.2.2
  have hts : ∀ w ∈ gw, w.before args s = true := fun w h => A.2.2.2.2.1 w (List.mem_cons_of_mem _ h)
  have hlt : i.toNatClampNeg < (Γ.2 a).2 := Nat.not_le.mp fun q => hin (Or.inr q)
  have h0 : ¬ i < 0 := fun q => hin (Or.inl q)
  have hat := Rp.2.2.2 a (.inl (G.2.2.2.1 7, (Γ.2 a).2, .inr (.inr (.inr (.inr fun j => (σ.2.2 a j).map G.2.1))))) h1 h2 (by unfold h_cell; rw [h3] <;> rfl)
  have hany : va_Any "GlassVows$Sentence" s H (G.2.1 b) := va_rAny hKK.1 (one_P (Rp.obj (ci := 7) hb)) (q0 := 0) rfl (show vwCl[7]? = some _ from rfl) (fun comp c0 g1 g2 => by
    cases Option.some.inj (g1.symm.trans g2)
    have hca := (hKK.1.1 7 _ rfl).2
    cases Option.some.inj (hca.1.symm.trans g1)
    exact va_assign hca)
  obtain ⟨cellV, g1, g3, ⟨kC, hkC⟩, hasg⟩ := hany
  obtain ⟨kA, comp, k1, k2, k3, -⟩ := (hKK.1.2 7 _ rfl).2
  obtain ⟨kE, hkE, -⟩ := Vm.findClass_spec k3
  refine W.aast A.1 A.2.1 hat (fun q h => by cases h) (fun h => by cases h) k1 k2 rfl hkE ⟨h0, by show _ < (arrV _ _ _).slots.size; rw [arrV_size]; exact hlt⟩ g1 (fun q h => by rw [h] at g3; cases g3) hkC (hasg _ k3) rfl rfl hd fun H1 e1 z oq => ?_
  refine kk _ hf p e s m args below meth c H1 _ ls A (Rp.store (σ' := (σ.1, σ.2.1, up2 σ.2.2 a i.toNatClampNeg (some b))) hKK.2.1 h1 (fun _ _ => rfl) (fun _ _ => rfl) (fun k hk => up2_ne hk) z oq (wtp_st Rp.2.2.1 (by decide) (by decide) h3 hb) ?_) (S.put z oq (Rp.own hKK.2.1 h1 h2 (by rw [h3]; decide))) L
  intro e he
  have he2 : h_cell G (Γ.2 a) (σ.1, σ.2.1, up2 σ.2.2 a i.toNatClampNeg (some b)) a = some (.inl (G.2.2.2.1 7, (Γ.2 a).2, .inr (.inr (.inr (.inr fun j => (up2 σ.2.2 a i.toNatClampNeg (some b) a j).map G.2.1))))) := by unfold h_cell; rw [h3] <;> rfl
  rw [he2] at he
  cases he
  show H1[G.2.1 a]? = some (vp_cell _ _)
  rw [e1]
  rw [vp_cell_q, vp_cell_q, arrV_store]
  congr 2
  funext q
  by_cases hq : q = i.toNatClampNeg
  · subst hq
    simp [updV, up2, va_rf]
  · simp [updV, up2, hq]
theorem q_aald8 {i : Int32} {α : Type} {F : Nat → Option α} {r : α} (hd : decode cc pc = .ok (.aaload, 1)) (ht : tyOK Γ (8, 0) a) (hf : ldR Γ.2 σ a i F = some r) (kk : ∀ b, tyOK Γ (a_r 8) b → F b = some r → WP l G y cc nL ret d mc ms Q k n (pc + 1) lv (.ref (G.2.1 b) :: st) Γ σ) : WP l G y cc nL ret d mc ms Q k n pc lv (.int i :: .ref (G.2.1 a) :: st) Γ σ := by
  intro p e s m args below meth c H locs ls A Rp S L
  obtain ⟨h1, h2, h3⟩ := ht
  obtain ⟨hin, hf⟩ := inb_if hf
  obtain ⟨b, hb, hfb⟩ := Option.bind_eq_some_iff.mp hf
  have hlt : i.toNatClampNeg < (Γ.2 a).2 := Nat.not_le.mp fun q => hin (Or.inr q)
  have hat := Rp.2.2.2 a (.inl (G.2.2.2.1 8, (Γ.2 a).2, .inr (.inr (.inr (.inr fun j => (σ.2.2 a j).map G.2.1))))) h1 h2 (by unfold h_cell; rw [h3] <;> rfl)
  have hty : tyOK Γ (a_r 8) b := by
    have h3' : (Γ.2 a).1 = 8 := h3
    have h := (Rp.2.2.1 a h1 h2).2 (by rw [h3']; decide) (by rw [h3']; decide) _ hlt b hb
    rw [h3'] at h
    exact h
  refine va_aldq A.1 A.2.1 A.2.2.2.2.2.2.2.2.1 (one_P hat) 0 8 rfl rfl hin hd ?_
  rw [hb]
  exact kk b hty hfb p e s m args below meth c H locs ls A Rp S L
theorem q_aast8 {i : Int32} {b : Nat} {α : Type} {F : mm → Option α} {r : α} (hd : decode cc pc = .ok (.aastore, 1)) (ht : tyOK Γ (8, 0) a) (hb : tyOK Γ (a_r 8) b) (hf : stR Γ.2 σ a i b F = some r) (kk : ∀ σ', F σ' = some r → WP l G y cc nL ret d mc ms Q k n (pc + 1) lv st Γ σ') : WP l G y cc nL ret d mc ms Q k n pc lv (.ref (G.2.1 b) :: .int i :: .ref (G.2.1 a) :: st) Γ σ := by
  intro p e s m args below meth c H locs ls A Rp S L
  obtain ⟨h1, h2, h3⟩ := id ht
  obtain ⟨hin, hf⟩ := inb_if hf
  have hKK := A.2.2.2.2.2.2.2.2
  have hts : ∀ w ∈ gw, w.before args s = true := fun w h => A.2.2.2.2.1 w (List.mem_cons_of_mem _ h)
  have hlt : i.toNatClampNeg < (Γ.2 a).2 := Nat.not_le.mp fun q => hin (Or.inr q)
  have h0 : ¬ i < 0 := fun q => hin (Or.inl q)
  have hat := Rp.2.2.2 a (.inl (G.2.2.2.1 8, (Γ.2 a).2, .inr (.inr (.inr (.inr fun j => (σ.2.2 a j).map G.2.1))))) h1 h2 (by unfold h_cell; rw [h3] <;> rfl)
  have hany : va_Any "GlassVows$Word" s H (G.2.1 b) := by
    obtain ⟨cell, g1, g2, g3, g4⟩ := (hKK.2.2.1.2.1 b hb).kept S.2.1
    obtain ⟨kC, hkC, -⟩ := Vm.findClass_spec g3
    refine ⟨cell, g1, g2, ⟨kC, hkC⟩, fun comp h => ?_⟩
    cases Option.some.inj (g3.symm.trans h)
    exact asg_refl _ _
  obtain ⟨cellV, g1, g3, ⟨kC, hkC⟩, hasg⟩ := hany
  obtain ⟨kA, comp, k1, k2, k3, -⟩ := (hKK.1.2 8 _ rfl).2
  obtain ⟨kE, hkE, -⟩ := Vm.findClass_spec k3
  refine W.aast A.1 A.2.1 hat (fun q h => by cases h) (fun h => by cases h) k1 k2 rfl hkE ⟨h0, by show _ < (arrV _ _ _).slots.size; rw [arrV_size]; exact hlt⟩ g1 (fun q h => by rw [h] at g3; cases g3) hkC (hasg _ k3) rfl rfl hd fun H1 e1 z oq => ?_
  refine kk _ hf p e s m args below meth c H1 _ ls A (Rp.store (σ' := (σ.1, σ.2.1, up2 σ.2.2 a i.toNatClampNeg (some b))) hKK.2.1 h1 (fun _ _ => rfl) (fun _ _ => rfl) (fun k hk => up2_ne hk) z oq (wtp_st Rp.2.2.1 (by decide) (by decide) h3 hb) ?_) (S.put z oq (Rp.own hKK.2.1 h1 h2 (by rw [h3]; decide))) L
  intro e he
  have he2 : h_cell G (Γ.2 a) (σ.1, σ.2.1, up2 σ.2.2 a i.toNatClampNeg (some b)) a = some (.inl (G.2.2.2.1 8, (Γ.2 a).2, .inr (.inr (.inr (.inr fun j => (up2 σ.2.2 a i.toNatClampNeg (some b) a j).map G.2.1))))) := by unfold h_cell; rw [h3] <;> rfl
  rw [he2] at he
  cases he
  show H1[G.2.1 a]? = some (vp_cell _ _)
  rw [e1]
  rw [vp_cell_q, vp_cell_q, arrV_store]
  congr 2
  funext q
  by_cases hq : q = i.toNatClampNeg
  · subst hq
    simp [updV, up2, va_rf]
  · simp [updV, up2, hq]
theorem q_copyI {index b : Nat} {sp dp n9 : Int32} {α : Type} {F : mm → Option α} {r : α} (hd : decode cc pc = .ok (.invokestatic index, 3)) (C : CPd y.cls index) (ha : tyOK Γ (1, 0) a) (hb : tyOK Γ (1, 0) b) (hst : (st.map fun v => v.category).sum ≤ 8) (hdd : 1 ≤ d) (hf : cpI Γ.2 σ a sp b dp n9 F = some r) (kk : ∀ σ', F σ' = some r → WP l G y cc nL ret d mc ms Q k n (pc + 3) lv st Γ σ') : WP l G y cc nL ret d mc ms Q k n pc lv (.int n9 :: .int dp :: .ref (G.2.1 b) :: .int sp :: .ref (G.2.1 a) :: st) Γ σ := by
  intro p e s m args below meth c H locs ls A Rp S L
  obtain ⟨a1, a2, a3⟩ := ha
  obtain ⟨b1, b2, b3⟩ := hb
  obtain ⟨c1, c2, c3, c4⟩ := C
  have hKK := A.2.2.2.2.2.2.2.2
  have hts : ∀ w ∈ gw, w.before args s = true := fun w h => A.2.2.2.2.1 w (List.mem_cons_of_mem _ h)
  have hck : cpk sp dp n9 (Γ.2 a).2 (Γ.2 b).2 = true := by
    unfold cpI at hf
    by_cases q : cpk sp dp n9 (Γ.2 a).2 (Γ.2 b).2 = true
    · exact q
    · rw [if_neg q] at hf; cases hf
  have hf : F (up1 σ.1 b (va_cpy (σ.1 a) (σ.1 b) sp.toNatClampNeg dp.toNatClampNeg n9.toNatClampNeg), σ.2.1, σ.2.2) = some r := by
    unfold cpI at hf
    rw [if_pos hck] at hf; exact hf
  obtain ⟨h1, h2, h3, h4, h5⟩ := cpk_spec hck
  have nn : ∀ z : Int32, ¬ z < 0 → z.toInt = (z.toNatClampNeg : Int) := by
    intro z hz
    have hz0 : (0 : Int) ≤ z.toInt := by
      have := Int32.not_lt.mp hz
      simpa using Int32.le_iff_toInt_le.mp this
    show z.toInt = ((z.toInt.toNat : Nat) : Int)
    omega
  have hc0 : H[G.2.1 a]? = some (vp_cell (G.2.2.2.1 1) ((Γ.2 a).2, .inl (σ.1 a))) := Rp.2.2.2 a (.inl (G.2.2.2.1 1, (Γ.2 a).2, .inl (σ.1 a))) a1 a2 (by unfold h_cell; rw [a3] <;> rfl)
  have hc1 : H[G.2.1 b]? = some (vp_cell (G.2.2.2.1 1) ((Γ.2 b).2, .inl (σ.1 b))) := Rp.2.2.2 b (.inl (G.2.2.2.1 1, (Γ.2 b).2, .inl (σ.1 b))) b1 b2 (by unfold h_cell; rw [b3] <;> rfl)
  have hroom : (st.map fun v => v.category).sum + (nativeFrameWords "java/lang/System" "arraycopy" 5 + 11) ≤ 41 * d + 32 := by
    have h9 : nativeFrameWords "java/lang/System" "arraycopy" 5 ≤ 40 := by decide
    omega
  intro T hT X
  obtain ⟨-, k0, hk0, cm0, hkk0⟩ := (hKK.1.2 1 _ rfl).1 (Γ.2 a).2 (fun j => .int (σ.1 a j))
  obtain ⟨-, k1, hk1, cm1, hkk1⟩ := (hKK.1.2 1 _ rfl).1 (Γ.2 b).2 (fun j => .int (σ.1 b j))
  obtain ⟨vm', X', step⟩ := X.arraycopy A.1 A.2.2.2.1 (hts _ c1) (hts _ c2) (hts _ c3) (hts _ c4) (src := G.2.1 a) (dst := G.2.1 b) (cs := vp_cell (G.2.2.2.1 1) ((Γ.2 a).2, .inl (σ.1 a))) (cd := vp_cell (G.2.2.2.1 1) ((Γ.2 b).2, .inl (σ.1 b))) (srcPos := sp) (destPos := dp) (n := n9) (by rw [hT]; exact hc0) (by rw [hT]; exact hc1)
    (fun _ h => by cases h) (fun _ h => by cases h) (fun h => by cases h) (fun h => by cases h) hk0 hk1 hkk0 hkk1 (by simp [show refKind .int = false from rfl]) h1 h2 h3
    (by rw [nn sp h1, nn n9 h3]; show ¬ _ > ((arrV _ (Γ.2 a).2 (fun j => .int (σ.1 a j))).slots.size : Int); rw [arrV_size]; omega)
    (by rw [nn dp h2, nn n9 h3]; show ¬ _ > ((arrV _ (Γ.2 b).2 (fun j => .int (σ.1 b j))).slots.size : Int); rw [arrV_size]; omega)
    (fun vm₁ _ i hi => by
      have e : (vp_cell (G.2.2.2.1 1) ((Γ.2 a).2, .inl (σ.1 a))).slots.getD (sp.toNatClampNeg + i) .null = .int (σ.1 a (sp.toNatClampNeg + i)) := by
        show (arrV _ (Γ.2 a).2 (fun j => .int (σ.1 a j))).slots.getD _ _ = _
        rw [Array.getD_eq_getD_getElem?, arrV_read _ _ (by omega)]
        rfl
      refine ⟨?_, ?_⟩
      · rw [e]
        rfl
      · rw [e]
        exact trivial)
    (g := F0 m pc ls (.int n9 :: .int dp :: .ref (G.2.1 b) :: .int sp :: .ref (G.2.1 a) :: st)) rfl (by rw [A.2.2.1]; exact L.1) (rest := st) rfl (by rw [A.2.1]; exact hd) (show 1 ≤ d from hdd) (by show 2 * 0 + _ + _ ≤ 41 * d + 32; omega)
  have e1 : copied (vp_cell (G.2.2.2.1 1) ((Γ.2 a).2, .inl (σ.1 a))) (vp_cell (G.2.2.2.1 1) ((Γ.2 b).2, .inl (σ.1 b))) sp dp n9 = vp_cell (G.2.2.2.1 1) ((Γ.2 b).2, .inl (va_cpy (σ.1 a) (σ.1 b) sp.toNatClampNeg dp.toNatClampNeg n9.toNatClampNeg)) := va_copied (fun z => .int z) _ _ (σ.1 a) (σ.1 b) h4
  rw [e1] at X' step
  have hl : G.2.1 b < H.size := (Array.getElem?_eq_some_iff.mp hc1).1
  have hheap : ((T.setVm vm').setCell (G.2.1 b) (vp_cell (G.2.2.2.1 1) ((Γ.2 b).2, .inl (va_cpy (σ.1 a) (σ.1 b) sp.toNatClampNeg dp.toNatClampNeg n9.toNatClampNeg)))).heap = H.setIfInBounds (G.2.1 b) (vp_cell (G.2.2.2.1 1) ((Γ.2 b).2, .inl (va_cpy (σ.1 a) (σ.1 b) sp.toNatClampNeg dp.toNatClampNeg n9.toNatClampNeg))) := by rw [← hT]; rfl
  have oq : ∀ q : Nat, q ≠ G.2.1 b → (H.setIfInBounds (G.2.1 b) (vp_cell (G.2.2.2.1 1) ((Γ.2 b).2, .inl (va_cpy (σ.1 a) (σ.1 b) sp.toNatClampNeg dp.toNatClampNeg n9.toNatClampNeg))))[q]? = H[q]? := fun q hq => by simp [Array.getElem?_setIfInBounds, Ne.symm hq]
  have hown : g_own G (G.2.1 b) := Rp.own hKK.2.1 b1 b2 (by rw [b3]; decide)
  obtain ⟨t, q1, q2⟩ := kk _ hf p e s m args below meth c (H.setIfInBounds (G.2.1 b) (vp_cell (G.2.2.2.1 1) ((Γ.2 b).2, .inl (va_cpy (σ.1 a) (σ.1 b) sp.toNatClampNeg dp.toNatClampNeg n9.toNatClampNeg)))) _ ls A (Rp.store (σ' := (up1 σ.1 b (va_cpy (σ.1 a) (σ.1 b) sp.toNatClampNeg dp.toNatClampNeg n9.toNatClampNeg), σ.2.1, σ.2.2)) hKK.2.1 b1 (fun k hk => up1_ne hk) (fun _ _ => rfl) (fun _ _ => rfl) (by simp) oq Rp.2.2.1 (fun e he => by
      have he2 : h_cell G (Γ.2 b) (up1 σ.1 b (va_cpy (σ.1 a) (σ.1 b) sp.toNatClampNeg dp.toNatClampNeg n9.toNatClampNeg), σ.2.1, σ.2.2) b = some (.inl (G.2.2.2.1 1, (Γ.2 b).2, .inl (va_cpy (σ.1 a) (σ.1 b) sp.toNatClampNeg dp.toNatClampNeg n9.toNatClampNeg))) := by
        unfold h_cell
        rw [b3]
        show some _ = some _
        simp only [up1_eq]
      rw [he2] at he
      cases he
      show (H.setIfInBounds (G.2.1 b) _)[G.2.1 b]? = some _
      simp [Array.getElem?_setIfInBounds, hl])) ⟨by simp; exact S.1, fun q g1 g2 => by
      rw [oq q (fun e => g2 (by rw [e]; exact hown))]
      exact S.2.1 q g1 g2, fun q hq => by
      rcases List.mem_append.mp hq with h | h
      · exact S.2.2 q h
      · obtain ⟨z, -, hz⟩ := List.mem_map.mp h
        rw [← hz]
        exact hown⟩ L _ hheap X'
  exact ⟨t, step t q1, q2⟩
theorem q_copyL {index b : Nat} {sp dp n9 : Int32} {α : Type} {F : mm → Option α} {r : α} (hd : decode cc pc = .ok (.invokestatic index, 3)) (C : CPd y.cls index) (ha : tyOK Γ (4, 0) a) (hb : tyOK Γ (4, 0) b) (hst : (st.map fun v => v.category).sum ≤ 8) (hdd : 1 ≤ d) (hf : cpL Γ.2 σ a sp b dp n9 F = some r) (kk : ∀ σ', F σ' = some r → WP l G y cc nL ret d mc ms Q k n (pc + 3) lv st Γ σ') : WP l G y cc nL ret d mc ms Q k n pc lv (.int n9 :: .int dp :: .ref (G.2.1 b) :: .int sp :: .ref (G.2.1 a) :: st) Γ σ := by
  intro p e s m args below meth c H locs ls A Rp S L
  obtain ⟨a1, a2, a3⟩ := ha
  obtain ⟨b1, b2, b3⟩ := hb
  obtain ⟨c1, c2, c3, c4⟩ := C
  have hKK := A.2.2.2.2.2.2.2.2
  have hts : ∀ w ∈ gw, w.before args s = true := fun w h => A.2.2.2.2.1 w (List.mem_cons_of_mem _ h)
  have hck : cpk sp dp n9 (Γ.2 a).2 (Γ.2 b).2 = true := by
    unfold cpL at hf
    by_cases q : cpk sp dp n9 (Γ.2 a).2 (Γ.2 b).2 = true
    · exact q
    · rw [if_neg q] at hf; cases hf
  have hf : F (σ.1, up1 σ.2.1 b (va_cpy (σ.2.1 a) (σ.2.1 b) sp.toNatClampNeg dp.toNatClampNeg n9.toNatClampNeg), σ.2.2) = some r := by
    unfold cpL at hf
    rw [if_pos hck] at hf; exact hf
  obtain ⟨h1, h2, h3, h4, h5⟩ := cpk_spec hck
  have nn : ∀ z : Int32, ¬ z < 0 → z.toInt = (z.toNatClampNeg : Int) := by
    intro z hz
    have hz0 : (0 : Int) ≤ z.toInt := by
      have := Int32.not_lt.mp hz
      simpa using Int32.le_iff_toInt_le.mp this
    show z.toInt = ((z.toInt.toNat : Nat) : Int)
    omega
  have hc0 : H[G.2.1 a]? = some (vp_cell (G.2.2.2.1 4) ((Γ.2 a).2, .inr (.inl (σ.2.1 a)))) := Rp.2.2.2 a (.inl (G.2.2.2.1 4, (Γ.2 a).2, .inr (.inl (σ.2.1 a)))) a1 a2 (by unfold h_cell; rw [a3] <;> rfl)
  have hc1 : H[G.2.1 b]? = some (vp_cell (G.2.2.2.1 4) ((Γ.2 b).2, .inr (.inl (σ.2.1 b)))) := Rp.2.2.2 b (.inl (G.2.2.2.1 4, (Γ.2 b).2, .inr (.inl (σ.2.1 b)))) b1 b2 (by unfold h_cell; rw [b3] <;> rfl)
  have hroom : (st.map fun v => v.category).sum + (nativeFrameWords "java/lang/System" "arraycopy" 5 + 11) ≤ 41 * d + 32 := by
    have h9 : nativeFrameWords "java/lang/System" "arraycopy" 5 ≤ 40 := by decide
    omega
  intro T hT X
  obtain ⟨-, k0, hk0, cm0, hkk0⟩ := (hKK.1.2 4 _ rfl).1 (Γ.2 a).2 (fun j => .long (σ.2.1 a j))
  obtain ⟨-, k1, hk1, cm1, hkk1⟩ := (hKK.1.2 4 _ rfl).1 (Γ.2 b).2 (fun j => .long (σ.2.1 b j))
  obtain ⟨vm', X', step⟩ := X.arraycopy A.1 A.2.2.2.1 (hts _ c1) (hts _ c2) (hts _ c3) (hts _ c4) (src := G.2.1 a) (dst := G.2.1 b) (cs := vp_cell (G.2.2.2.1 4) ((Γ.2 a).2, .inr (.inl (σ.2.1 a)))) (cd := vp_cell (G.2.2.2.1 4) ((Γ.2 b).2, .inr (.inl (σ.2.1 b)))) (srcPos := sp) (destPos := dp) (n := n9) (by rw [hT]; exact hc0) (by rw [hT]; exact hc1)
    (fun _ h => by cases h) (fun _ h => by cases h) (fun h => by cases h) (fun h => by cases h) hk0 hk1 hkk0 hkk1 (by simp [show refKind .long = false from rfl]) h1 h2 h3
    (by rw [nn sp h1, nn n9 h3]; show ¬ _ > ((arrV _ (Γ.2 a).2 (fun j => .long (σ.2.1 a j))).slots.size : Int); rw [arrV_size]; omega)
    (by rw [nn dp h2, nn n9 h3]; show ¬ _ > ((arrV _ (Γ.2 b).2 (fun j => .long (σ.2.1 b j))).slots.size : Int); rw [arrV_size]; omega)
    (fun vm₁ _ i hi => by
      have e : (vp_cell (G.2.2.2.1 4) ((Γ.2 a).2, .inr (.inl (σ.2.1 a)))).slots.getD (sp.toNatClampNeg + i) .null = .long (σ.2.1 a (sp.toNatClampNeg + i)) := by
        show (arrV _ (Γ.2 a).2 (fun j => .long (σ.2.1 a j))).slots.getD _ _ = _
        rw [Array.getD_eq_getD_getElem?, arrV_read _ _ (by omega)]
        rfl
      refine ⟨?_, ?_⟩
      · rw [e]
        rfl
      · rw [e]
        exact trivial)
    (g := F0 m pc ls (.int n9 :: .int dp :: .ref (G.2.1 b) :: .int sp :: .ref (G.2.1 a) :: st)) rfl (by rw [A.2.2.1]; exact L.1) (rest := st) rfl (by rw [A.2.1]; exact hd) (show 1 ≤ d from hdd) (by show 2 * 0 + _ + _ ≤ 41 * d + 32; omega)
  have e1 : copied (vp_cell (G.2.2.2.1 4) ((Γ.2 a).2, .inr (.inl (σ.2.1 a)))) (vp_cell (G.2.2.2.1 4) ((Γ.2 b).2, .inr (.inl (σ.2.1 b)))) sp dp n9 = vp_cell (G.2.2.2.1 4) ((Γ.2 b).2, .inr (.inl (va_cpy (σ.2.1 a) (σ.2.1 b) sp.toNatClampNeg dp.toNatClampNeg n9.toNatClampNeg))) := va_copied (fun z => .long z) _ _ (σ.2.1 a) (σ.2.1 b) h4
  rw [e1] at X' step
  have hl : G.2.1 b < H.size := (Array.getElem?_eq_some_iff.mp hc1).1
  have hheap : ((T.setVm vm').setCell (G.2.1 b) (vp_cell (G.2.2.2.1 4) ((Γ.2 b).2, .inr (.inl (va_cpy (σ.2.1 a) (σ.2.1 b) sp.toNatClampNeg dp.toNatClampNeg n9.toNatClampNeg))))).heap = H.setIfInBounds (G.2.1 b) (vp_cell (G.2.2.2.1 4) ((Γ.2 b).2, .inr (.inl (va_cpy (σ.2.1 a) (σ.2.1 b) sp.toNatClampNeg dp.toNatClampNeg n9.toNatClampNeg)))) := by rw [← hT]; rfl
  have oq : ∀ q : Nat, q ≠ G.2.1 b → (H.setIfInBounds (G.2.1 b) (vp_cell (G.2.2.2.1 4) ((Γ.2 b).2, .inr (.inl (va_cpy (σ.2.1 a) (σ.2.1 b) sp.toNatClampNeg dp.toNatClampNeg n9.toNatClampNeg)))))[q]? = H[q]? := fun q hq => by simp [Array.getElem?_setIfInBounds, Ne.symm hq]
  have hown : g_own G (G.2.1 b) := Rp.own hKK.2.1 b1 b2 (by rw [b3]; decide)
  obtain ⟨t, q1, q2⟩ := kk _ hf p e s m args below meth c (H.setIfInBounds (G.2.1 b) (vp_cell (G.2.2.2.1 4) ((Γ.2 b).2, .inr (.inl (va_cpy (σ.2.1 a) (σ.2.1 b) sp.toNatClampNeg dp.toNatClampNeg n9.toNatClampNeg))))) _ ls A (Rp.store (σ' := (σ.1, up1 σ.2.1 b (va_cpy (σ.2.1 a) (σ.2.1 b) sp.toNatClampNeg dp.toNatClampNeg n9.toNatClampNeg), σ.2.2)) hKK.2.1 b1 (fun _ _ => rfl) (fun k hk => up1_ne hk) (fun _ _ => rfl) (by simp) oq Rp.2.2.1 (fun e he => by
      have he2 : h_cell G (Γ.2 b) (σ.1, up1 σ.2.1 b (va_cpy (σ.2.1 a) (σ.2.1 b) sp.toNatClampNeg dp.toNatClampNeg n9.toNatClampNeg), σ.2.2) b = some (.inl (G.2.2.2.1 4, (Γ.2 b).2, .inr (.inl (va_cpy (σ.2.1 a) (σ.2.1 b) sp.toNatClampNeg dp.toNatClampNeg n9.toNatClampNeg)))) := by
        unfold h_cell
        rw [b3]
        show some _ = some _
        simp only [up1_eq]
      rw [he2] at he
      cases he
      show (H.setIfInBounds (G.2.1 b) _)[G.2.1 b]? = some _
      simp [Array.getElem?_setIfInBounds, hl])) ⟨by simp; exact S.1, fun q g1 g2 => by
      rw [oq q (fun e => g2 (by rw [e]; exact hown))]
      exact S.2.1 q g1 g2, fun q hq => by
      rcases List.mem_append.mp hq with h | h
      · exact S.2.2 q h
      · obtain ⟨z, -, hz⟩ := List.mem_map.mp h
        rw [← hz]
        exact hown⟩ L _ hheap X'
  exact ⟨t, step t q1, q2⟩
theorem r_max {index : Nat} {x y' : Int32} (hd : decode cc pc = .ok (.invokestatic index, 3)) (C : MXd y.cls index) (hst : (st.map fun v => v.category).sum ≤ 8) (hdd : 1 ≤ d) (hk : k ≤ mc) (hn : n ≤ ms) (kk : WP l G y cc nL ret d mc ms Q k n (pc + 3) lv (.int (mxI x y') :: st) Γ σ) : WP l G y cc nL ret d mc ms Q k n pc lv (.int y' :: .int x :: st) Γ σ := by
  intro p e s m args below meth c H locs ls A Rp S L
  have hts : ∀ w ∈ gw, w.before args s = true := fun w h => A.2.2.2.2.1 w (List.mem_cons_of_mem _ h)
  exact va_mmax A.1 A.2.1 (by rw [A.2.2.1, L.1]) A.2.2.2.1 (hts _ C.1) (hts _ C.2.1) (hts _ C.2.2.1) (hts _ C.2.2.2) (show 1 ≤ d from hdd) (by show _ ≤ 41 * d + 32; omega) hk hn hd (kk p e s m args below meth c H locs ls A Rp S L)
theorem r_min {index : Nat} {x y' : Int32} (hd : decode cc pc = .ok (.invokestatic index, 3)) (C : MNd y.cls index) (hst : (st.map fun v => v.category).sum ≤ 8) (hdd : 1 ≤ d) (hk : k ≤ mc) (hn : n ≤ ms) (kk : WP l G y cc nL ret d mc ms Q k n (pc + 3) lv (.int (mnI x y') :: st) Γ σ) : WP l G y cc nL ret d mc ms Q k n pc lv (.int y' :: .int x :: st) Γ σ := by
  intro p e s m args below meth c H locs ls A Rp S L
  have hts : ∀ w ∈ gw, w.before args s = true := fun w h => A.2.2.2.2.1 w (List.mem_cons_of_mem _ h)
  exact va_mmin A.1 A.2.1 (by rw [A.2.2.1, L.1]) A.2.2.2.1 (hts _ C.1) (hts _ C.2.1) (hts _ C.2.2.1) (hts _ C.2.2.2) (show 1 ≤ d from hdd) (by show _ ≤ 41 * d + 32; omega) hk hn hd (kk p e s m args below meth c H locs ls A Rp S L)
theorem q_cord {index np : Nat} {x y2 : MethodName} {cc2 : ByteArray} {nL2 : Nat} {ret2 : Option FieldType} {v : Int32} (hd : decode cc pc = .ok (.invokevirtual index, 3)) (C : CUd y.cls index x y2 cc2 nL2 ret2 np) (hxc : x.cls = "GlassVows$Word") (hnp : np = 0) (ht : tyOK Γ (100, 0) a) (hst : (st.map fun v => v.category).sum ≤ 8) (hdd : 1 ≤ d) (hM : CT l G y2 cc2 nL2 ret2 (d - 1) 0 0 [.ref (G.2.1 a)] Γ σ (PP (some (.int v)) Γ σ)) (kk : WP l G y cc nL ret d 0 0 Q 0 0 (pc + 3) lv (.int v :: st) Γ σ) : WP l G y cc nL ret d 0 0 Q 0 0 pc lv (.ref (G.2.1 a) :: st) Γ σ := by
  intro p e s m args below meth c H locs ls A Rp S L
  obtain ⟨c1, c2, c3, c4⟩ := C
  have hKK := A.2.2.2.2.2.2.2.2
  subst hnp
  refine r_run (st := st) (va_runU (Ts := Cond.code y cc nL ret :: gw) (C := x.cls) (owner := y2.cls) (x := x) (As := []) ⟨A.1, A.2.1, A.2.2.1, A.2.2.2.1, A.2.2.2.2.1⟩ hM (va_cwU 0 A.2.2.2.2.1 (gi_gw (w1 := va_wsU y.cls index x.cls y2.cls x y2 (Cond.code y2 cc2 nL2 ret2 :: gw)) (fun w hw => ?_)) rfl rfl rfl c3 c4 ⟨?_, ?_⟩) ⟨pc_blind, ?_, fun U hU hW => ⟨rfl, by rw [hU]; exact Rp, hKK.at S hU hW⟩⟩ rfl rfl L.1 rfl (lv_room hst) hd ⟨Nat.le_refl _, Nat.le_refl _⟩) A S L ?_
  · simp only [va_wsU, List.cons_append, List.nil_append, List.mem_cons] at hw
    rcases hw with rfl | rfl | rfl | rfl | rfl | rfl | h
    · exact c1 _ (by simp)
    · exact c1 _ (by simp)
    · exact c1 _ (by simp)
    · exact c1 _ (by simp)
    · exact c1 _ (by simp)
    · exact c1 _ (by simp)
    · exact h
  · show d - 1 + 1 ≤ d
    omega
  · show 8 + (nL2 + 11) + (41 * (d - 1) + 32) ≤ 41 * d + 32
    omega
  · rw [hxc]
    obtain ⟨cell, g1, g2, g3, g4⟩ := (hKK.2.2.1.2.1 a ht).kept S.2.1
    exact ⟨cell, g1, g2, g3⟩
  · rintro v Γ' σ' ⟨rfl, rfl, rfl⟩
    exact kk
end E
