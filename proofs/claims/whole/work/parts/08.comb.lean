/-! The words in which a method is said as a function, and the rules that go along them. -/
def nm {α β : Type} (x : α) (F : α → β) : β := F x
def ldI {α : Type} (S : Nat → Nat × Nat) (σ : mm) (a : Nat) (i : Int32) (F : Int32 → Option α) : Option α := if inb i (S a).2 = true then F (σ.1 a i.toNatClampNeg) else none
def ldL {α : Type} (S : Nat → Nat × Nat) (σ : mm) (a : Nat) (i : Int32) (F : Int64 → Option α) : Option α := if inb i (S a).2 = true then F (σ.2.1 a i.toNatClampNeg) else none
def stI {α : Type} (S : Nat → Nat × Nat) (σ : mm) (a : Nat) (i x : Int32) (F : mm → Option α) : Option α := if inb i (S a).2 = true then F (up2 σ.1 a i.toNatClampNeg x, σ.2.1, σ.2.2) else none
def stL {α : Type} (S : Nat → Nat × Nat) (σ : mm) (a : Nat) (i : Int32) (x : Int64) (F : mm → Option α) : Option α := if inb i (S a).2 = true then F (σ.1, up2 σ.2.1 a i.toNatClampNeg x, σ.2.2) else none
def stB {α : Type} (S : Nat → Nat × Nat) (σ : mm) (a : Nat) (i x : Int32) (F : mm → Option α) : Option α := if inb i (S a).2 = true then F (up2 σ.1 a i.toNatClampNeg (x.toInt8.toInt32), σ.2.1, σ.2.2) else none
def stZ {α : Type} (S : Nat → Nat × Nat) (σ : mm) (a : Nat) (i x : Int32) (F : mm → Option α) : Option α := if inb i (S a).2 = true then F (up2 σ.1 a i.toNatClampNeg (x &&& 1), σ.2.1, σ.2.2) else none
def wI {α : Type} (σ : mm) (a j : Nat) (x : Int32) (F : mm → Option α) : Option α := F (up2 σ.1 a j x, σ.2.1, σ.2.2)
def wL {α : Type} (σ : mm) (a j : Nat) (x : Int64) (F : mm → Option α) : Option α := F (σ.1, up2 σ.2.1 a j x, σ.2.2)
def wZ {α : Type} (σ : mm) (a j : Nat) (x : Int32) (F : mm → Option α) : Option α := if isb x = true then F (up2 σ.1 a j x, σ.2.1, σ.2.2) else none
def gR {α : Type} (σ : mm) (a j : Nat) (F : Nat → Option α) : Option α := (σ.2.2 a j).bind F
def rZ {α : Type} (v : Int32) (x : Option α) : Option α := if isb v = true then x else none
def nz {α : Type} (v : Int32) (x : Option α) : Option α := if v = 0 then none else x
def bd0 {α β : Type} (o : Option α) (F : α → Option β) : Option β := o.bind F
def bd2 {α β : Type} (o : Option (α × mm)) (F : α → mm → Option β) : Option β := o.bind (fun r => F r.1 r.2)
theorem bd0_some {α β : Type} {o : Option α} {F : α → Option β} {r : β} (h : bd0 o F = some r) : ∃ v, o = some v ∧ F v = some r := Option.bind_eq_some_iff.mp h
theorem bd2_some {α β : Type} {o : Option (α × mm)} {F : α → mm → Option β} {r : β} (h : bd2 o F = some r) : ∃ v σ, o = some (v, σ) ∧ F v σ = some r := by
  obtain ⟨⟨v, σ⟩, h1, h2⟩ := Option.bind_eq_some_iff.mp h
  exact ⟨v, σ, h1, h2⟩
theorem rZ_some {α : Type} {v : Int32} {x : Option α} {r : α} (h : rZ v x = some r) : isb v = true ∧ x = some r := by
  unfold rZ at h
  by_cases q : isb v = true
  · rw [if_pos q] at h; exact ⟨q, h⟩
  · rw [if_neg q] at h; cases h
theorem nz_some {α : Type} {v : Int32} {x : Option α} {r : α} (h : nz v x = some r) : ¬ v = 0 ∧ x = some r := by
  unfold nz at h
  by_cases q : v = 0
  · rw [if_pos q] at h; cases h
  · rw [if_neg q] at h; exact ⟨q, h⟩
/-- what a contract says behind the call: the answer, the same layout, the new contents -/
def PP (rv : Option Value) (Γ : ly) (σ : mm) : Option Value → ly → mm → Prop := fun v Γ' σ' => v = rv ∧ Γ' = Γ ∧ σ' = σ
theorem PP.self {rv : Option Value} {Γ : ly} {σ : mm} : PP rv Γ σ rv Γ σ := ⟨rfl, rfl, rfl⟩
section C
variable {l : Launch} {G : gg} {y : MethodName} {cc : ByteArray} {nL : Nat} {ret : Option FieldType} {d mc ms : Nat} {Q : Option Value → ly → mm → Prop} {k n pc : Nat} {lv : List (Nat × Value)} {st : List Value} {Γ : ly} {σ : mm} {a : Nat}
theorem q_nmI {x : Int32} {α : Type} {F : Int32 → Option α} {r : α} (hf : nm x F = some r) (kk : ∀ x', F x' = some r → WP l G y cc nL ret d mc ms Q k n pc lv (.int x' :: st) Γ σ) : WP l G y cc nL ret d mc ms Q k n pc lv (.int x :: st) Γ σ := kk x hf
theorem q_nmL {x : Int64} {α : Type} {F : Int64 → Option α} {r : α} (hf : nm x F = some r) (kk : ∀ x', F x' = some r → WP l G y cc nL ret d mc ms Q k n pc lv (.long x' :: st) Γ σ) : WP l G y cc nL ret d mc ms Q k n pc lv (.long x :: st) Γ σ := kk x hf
theorem q_iinc {z : Nat} {w : Int} {x v : Int32} {α : Type} {F : Int32 → Option α} {r : α} (q : Nat) (lv' : Int32 → List (Nat × Value)) (hd : decode cc pc = .ok (.iinc z w, 3)) (hk : lv[q]? = some (z, .int x)) (hv : Int32.ofInt w = v) (hn : z < nL) (hl : ∀ x', (z, Value.int x') :: lv.filter (fun q => !(q.1 == z) && !(q.1 + 1 == z && q.2.category == 2)) = lv' x') (hf : nm (x + v) F = some r) (kk : ∀ x', F x' = some r → WP l G y cc nL ret d mc ms Q k n (pc + 3) (lv' x') st Γ σ) : WP l G y cc nL ret d mc ms Q k n pc lv st Γ σ := r_iinc q hd hk hv hn (hl _) (kk _ hf)
theorem q_iald {i : Int32} {α : Type} {F : Int32 → Option α} {r : α} (hd : decode cc pc = .ok (.iaload, 1)) (ht : tyOK Γ (1, 0) a) (hf : ldI Γ.2 σ a i F = some r) (kk : ∀ v, F v = some r → WP l G y cc nL ret d mc ms Q k n (pc + 1) lv (.int v :: st) Γ σ) : WP l G y cc nL ret d mc ms Q k n pc lv (.int i :: .ref (G.2.1 a) :: st) Γ σ := r_iald hd ht hf (kk _)
theorem q_bald {i : Int32} {α : Type} {F : Int32 → Option α} {r : α} (hd : decode cc pc = .ok (.baload, 1)) (ht : tyOK Γ (2, 0) a) (hf : ldI Γ.2 σ a i F = some r) (kk : ∀ v, F v = some r → WP l G y cc nL ret d mc ms Q k n (pc + 1) lv (.int v :: st) Γ σ) : WP l G y cc nL ret d mc ms Q k n pc lv (.int i :: .ref (G.2.1 a) :: st) Γ σ := r_bald hd ht hf (kk _)
theorem q_zald {i : Int32} {α : Type} {F : Int32 → Option α} {r : α} (hd : decode cc pc = .ok (.baload, 1)) (ht : tyOK Γ (3, 0) a) (hf : ldI Γ.2 σ a i F = some r) (kk : ∀ v, F v = some r → WP l G y cc nL ret d mc ms Q k n (pc + 1) lv (.int v :: st) Γ σ) : WP l G y cc nL ret d mc ms Q k n pc lv (.int i :: .ref (G.2.1 a) :: st) Γ σ := r_zald hd ht hf (kk _)
theorem q_lald {i : Int32} {α : Type} {F : Int64 → Option α} {r : α} (hd : decode cc pc = .ok (.laload, 1)) (ht : tyOK Γ (4, 0) a) (hf : ldL Γ.2 σ a i F = some r) (kk : ∀ v, F v = some r → WP l G y cc nL ret d mc ms Q k n (pc + 1) lv (.long v :: st) Γ σ) : WP l G y cc nL ret d mc ms Q k n pc lv (.int i :: .ref (G.2.1 a) :: st) Γ σ := r_lald hd ht hf (kk _)
theorem q_iast {i x : Int32} {α : Type} {F : mm → Option α} {r : α} (hd : decode cc pc = .ok (.iastore, 1)) (ht : tyOK Γ (1, 0) a) (hf : stI Γ.2 σ a i x F = some r) (kk : ∀ σ', F σ' = some r → WP l G y cc nL ret d mc ms Q k n (pc + 1) lv st Γ σ') : WP l G y cc nL ret d mc ms Q k n pc lv (.int x :: .int i :: .ref (G.2.1 a) :: st) Γ σ := r_iast hd ht hf (kk _)
theorem q_bast {i x : Int32} {α : Type} {F : mm → Option α} {r : α} (hd : decode cc pc = .ok (.bastore, 1)) (ht : tyOK Γ (2, 0) a) (hf : stB Γ.2 σ a i x F = some r) (kk : ∀ σ', F σ' = some r → WP l G y cc nL ret d mc ms Q k n (pc + 1) lv st Γ σ') : WP l G y cc nL ret d mc ms Q k n pc lv (.int x :: .int i :: .ref (G.2.1 a) :: st) Γ σ := r_bast hd ht hf (kk _)
theorem q_zast {i x : Int32} {α : Type} {F : mm → Option α} {r : α} (hd : decode cc pc = .ok (.bastore, 1)) (ht : tyOK Γ (3, 0) a) (hf : stZ Γ.2 σ a i x F = some r) (kk : ∀ σ', F σ' = some r → WP l G y cc nL ret d mc ms Q k n (pc + 1) lv st Γ σ') : WP l G y cc nL ret d mc ms Q k n pc lv (.int x :: .int i :: .ref (G.2.1 a) :: st) Γ σ := r_zast hd ht hf (kk _)
theorem q_last {i : Int32} {x : Int64} {α : Type} {F : mm → Option α} {r : α} (hd : decode cc pc = .ok (.lastore, 1)) (ht : tyOK Γ (4, 0) a) (hf : stL Γ.2 σ a i x F = some r) (kk : ∀ σ', F σ' = some r → WP l G y cc nL ret d mc ms Q k n (pc + 1) lv st Γ σ') : WP l G y cc nL ret d mc ms Q k n pc lv (.long x :: .int i :: .ref (G.2.1 a) :: st) Γ σ := r_last hd ht hf (kk _)
theorem q_putI {index ci j : Nat} {x : Int32} {α : Type} {F : mm → Option α} {r : α} (hd : decode cc pc = .ok (.putfield index, 3)) (D : FD y.cls index ci j 0 .int false) (ht : tyOK Γ (0, ci) a) (hf : wI σ a j x F = some r) (kk : ∀ σ', F σ' = some r → WP l G y cc nL ret d mc ms Q k n (pc + 3) lv st Γ σ') : WP l G y cc nL ret d mc ms Q k n pc lv (.int x :: .ref (G.2.1 a) :: st) Γ σ := r_putI hd D ht (kk _ hf)
theorem q_putZ {index ci j : Nat} {x : Int32} {α : Type} {F : mm → Option α} {r : α} (hd : decode cc pc = .ok (.putfield index, 3)) (D : FD y.cls index ci j 0 .boolean false) (ht : tyOK Γ (0, ci) a) (hf : wZ σ a j x F = some r) (kk : ∀ σ', F σ' = some r → WP l G y cc nL ret d mc ms Q k n (pc + 3) lv st Γ σ') : WP l G y cc nL ret d mc ms Q k n pc lv (.int x :: .ref (G.2.1 a) :: st) Γ σ := r_putZ hd D ht hf (kk _)
theorem q_putL {index ci j : Nat} {x : Int64} {α : Type} {F : mm → Option α} {r : α} (hd : decode cc pc = .ok (.putfield index, 3)) (D : FD y.cls index ci j 1 .long false) (ht : tyOK Γ (0, ci) a) (hf : wL σ a j x F = some r) (kk : ∀ σ', F σ' = some r → WP l G y cc nL ret d mc ms Q k n (pc + 3) lv st Γ σ') : WP l G y cc nL ret d mc ms Q k n pc lv (.long x :: .ref (G.2.1 a) :: st) Γ σ := r_putL hd D ht (kk _ hf)
theorem q_getR {index ci j : Nat} {fty : FieldType} {fin : Bool} {e9 : Nat × Nat} {α : Type} {F : Nat → Option α} {r : α} (hd : decode cc pc = .ok (.getfield index, 3)) (D : FD y.cls index ci j 2 fty fin) (ht : tyOK Γ (0, ci) a) (he : c_r ci j = e9) (hf : gR σ a j F = some r) (kk : ∀ b, tyOK Γ e9 b → F b = some r → WP l G y cc nL ret d mc ms Q k n (pc + 3) lv (.ref (G.2.1 b) :: st) Γ σ) : WP l G y cc nL ret d mc ms Q k n pc lv (.ref (G.2.1 a) :: st) Γ σ := r_getR hd D ht hf (fun b h1 h2 => kk b (he ▸ h1) h2)
theorem q_cVI {index ci : Nat} {y2 : MethodName} {cc2 : ByteArray} {nL2 np : Nat} {ret2 : Option FieldType} (As : List Value) {As' : List Value} {x9 : Int32} {σ2 : mm} {r9 : vw_C} (hd : decode cc pc = .ok (.invokevirtual index, 3)) (C : CVd y.cls index y2 cc2 nL2 ret2 np) (hc : vwCl[ci]? = some r9) (hcn : r9.1 = y2.cls) (ht : tyOK Γ (0, ci) a) (hn : As.length = np) (has : As.reverse ++ .ref (G.2.1 a) :: st = As') (hst : (st.map fun v => v.category).sum ≤ 8) (hdd : 1 ≤ d)
    (hM : CT l G y2 cc2 nL2 ret2 (d - 1) 0 0 (.ref (G.2.1 a) :: As) Γ σ (PP (some (.int x9)) Γ σ2)) (kk : WP l G y cc nL ret d 0 0 Q 0 0 (pc + 3) lv (.int x9 :: st) Γ σ2) : WP l G y cc nL ret d 0 0 Q 0 0 pc lv As' Γ σ := by
  subst has
  refine r_callV hd C hc hcn ht hn rfl hst (by omega) (Nat.le_refl _) (Nat.le_refl _) hM ?_
  rintro v Γ' σ' ⟨rfl, rfl, rfl⟩
  exact kk
theorem q_cSI {index : Nat} {y2 : MethodName} {cc2 : ByteArray} {nL2 np : Nat} {ret2 : Option FieldType} (As : List Value) {As' : List Value} {x9 : Int32} {σ2 : mm} (hd : decode cc pc = .ok (.invokestatic index, 3)) (C : CSd y.cls index y2 cc2 nL2 ret2 np) (hn : As.length = np) (has : As.reverse ++ st = As') (hst : (st.map fun v => v.category).sum ≤ 8) (hdd : 1 ≤ d)
    (hM : CT l G y2 cc2 nL2 ret2 (d - 1) 0 0 As Γ σ (PP (some (.int x9)) Γ σ2)) (kk : WP l G y cc nL ret d 0 0 Q 0 0 (pc + 3) lv (.int x9 :: st) Γ σ2) : WP l G y cc nL ret d 0 0 Q 0 0 pc lv As' Γ σ := by
  subst has
  refine r_callS hd C hn rfl hst (by omega) (Nat.le_refl _) (Nat.le_refl _) hM ?_
  rintro v Γ' σ' ⟨rfl, rfl, rfl⟩
  exact kk
theorem q_cVL {index ci : Nat} {y2 : MethodName} {cc2 : ByteArray} {nL2 np : Nat} {ret2 : Option FieldType} (As : List Value) {As' : List Value} {x9 : Int64} {σ2 : mm} {r9 : vw_C} (hd : decode cc pc = .ok (.invokevirtual index, 3)) (C : CVd y.cls index y2 cc2 nL2 ret2 np) (hc : vwCl[ci]? = some r9) (hcn : r9.1 = y2.cls) (ht : tyOK Γ (0, ci) a) (hn : As.length = np) (has : As.reverse ++ .ref (G.2.1 a) :: st = As') (hst : (st.map fun v => v.category).sum ≤ 8) (hdd : 1 ≤ d)
    (hM : CT l G y2 cc2 nL2 ret2 (d - 1) 0 0 (.ref (G.2.1 a) :: As) Γ σ (PP (some (.long x9)) Γ σ2)) (kk : WP l G y cc nL ret d 0 0 Q 0 0 (pc + 3) lv (.long x9 :: st) Γ σ2) : WP l G y cc nL ret d 0 0 Q 0 0 pc lv As' Γ σ := by
  subst has
  refine r_callV hd C hc hcn ht hn rfl hst (by omega) (Nat.le_refl _) (Nat.le_refl _) hM ?_
  rintro v Γ' σ' ⟨rfl, rfl, rfl⟩
  exact kk
theorem q_cSL {index : Nat} {y2 : MethodName} {cc2 : ByteArray} {nL2 np : Nat} {ret2 : Option FieldType} (As : List Value) {As' : List Value} {x9 : Int64} {σ2 : mm} (hd : decode cc pc = .ok (.invokestatic index, 3)) (C : CSd y.cls index y2 cc2 nL2 ret2 np) (hn : As.length = np) (has : As.reverse ++ st = As') (hst : (st.map fun v => v.category).sum ≤ 8) (hdd : 1 ≤ d)
    (hM : CT l G y2 cc2 nL2 ret2 (d - 1) 0 0 As Γ σ (PP (some (.long x9)) Γ σ2)) (kk : WP l G y cc nL ret d 0 0 Q 0 0 (pc + 3) lv (.long x9 :: st) Γ σ2) : WP l G y cc nL ret d 0 0 Q 0 0 pc lv As' Γ σ := by
  subst has
  refine r_callS hd C hn rfl hst (by omega) (Nat.le_refl _) (Nat.le_refl _) hM ?_
  rintro v Γ' σ' ⟨rfl, rfl, rfl⟩
  exact kk
theorem q_cVA {index ci : Nat} {y2 : MethodName} {cc2 : ByteArray} {nL2 np : Nat} {ret2 : Option FieldType} (As : List Value) {As' : List Value} {x9 : Nat} {σ2 : mm} {r9 : vw_C} (hd : decode cc pc = .ok (.invokevirtual index, 3)) (C : CVd y.cls index y2 cc2 nL2 ret2 np) (hc : vwCl[ci]? = some r9) (hcn : r9.1 = y2.cls) (ht : tyOK Γ (0, ci) a) (hn : As.length = np) (has : As.reverse ++ .ref (G.2.1 a) :: st = As') (hst : (st.map fun v => v.category).sum ≤ 8) (hdd : 1 ≤ d)
    (hM : CT l G y2 cc2 nL2 ret2 (d - 1) 0 0 (.ref (G.2.1 a) :: As) Γ σ (PP (some (.ref x9)) Γ σ2)) (kk : WP l G y cc nL ret d 0 0 Q 0 0 (pc + 3) lv (.ref x9 :: st) Γ σ2) : WP l G y cc nL ret d 0 0 Q 0 0 pc lv As' Γ σ := by
  subst has
  refine r_callV hd C hc hcn ht hn rfl hst (by omega) (Nat.le_refl _) (Nat.le_refl _) hM ?_
  rintro v Γ' σ' ⟨rfl, rfl, rfl⟩
  exact kk
theorem q_cSA {index : Nat} {y2 : MethodName} {cc2 : ByteArray} {nL2 np : Nat} {ret2 : Option FieldType} (As : List Value) {As' : List Value} {x9 : Nat} {σ2 : mm} (hd : decode cc pc = .ok (.invokestatic index, 3)) (C : CSd y.cls index y2 cc2 nL2 ret2 np) (hn : As.length = np) (has : As.reverse ++ st = As') (hst : (st.map fun v => v.category).sum ≤ 8) (hdd : 1 ≤ d)
    (hM : CT l G y2 cc2 nL2 ret2 (d - 1) 0 0 As Γ σ (PP (some (.ref x9)) Γ σ2)) (kk : WP l G y cc nL ret d 0 0 Q 0 0 (pc + 3) lv (.ref x9 :: st) Γ σ2) : WP l G y cc nL ret d 0 0 Q 0 0 pc lv As' Γ σ := by
  subst has
  refine r_callS hd C hn rfl hst (by omega) (Nat.le_refl _) (Nat.le_refl _) hM ?_
  rintro v Γ' σ' ⟨rfl, rfl, rfl⟩
  exact kk
theorem q_cVV {index ci : Nat} {y2 : MethodName} {cc2 : ByteArray} {nL2 np : Nat} {ret2 : Option FieldType} (As : List Value) {As' : List Value} {σ2 : mm} {r9 : vw_C} (hd : decode cc pc = .ok (.invokevirtual index, 3)) (C : CVd y.cls index y2 cc2 nL2 ret2 np) (hc : vwCl[ci]? = some r9) (hcn : r9.1 = y2.cls) (ht : tyOK Γ (0, ci) a) (hn : As.length = np) (has : As.reverse ++ .ref (G.2.1 a) :: st = As') (hst : (st.map fun v => v.category).sum ≤ 8) (hdd : 1 ≤ d)
    (hM : CT l G y2 cc2 nL2 ret2 (d - 1) 0 0 (.ref (G.2.1 a) :: As) Γ σ (PP (none) Γ σ2)) (kk : WP l G y cc nL ret d 0 0 Q 0 0 (pc + 3) lv (st) Γ σ2) : WP l G y cc nL ret d 0 0 Q 0 0 pc lv As' Γ σ := by
  subst has
  refine r_callV hd C hc hcn ht hn rfl hst (by omega) (Nat.le_refl _) (Nat.le_refl _) hM ?_
  rintro v Γ' σ' ⟨rfl, rfl, rfl⟩
  exact kk
theorem q_cSV {index : Nat} {y2 : MethodName} {cc2 : ByteArray} {nL2 np : Nat} {ret2 : Option FieldType} (As : List Value) {As' : List Value} {σ2 : mm} (hd : decode cc pc = .ok (.invokestatic index, 3)) (C : CSd y.cls index y2 cc2 nL2 ret2 np) (hn : As.length = np) (has : As.reverse ++ st = As') (hst : (st.map fun v => v.category).sum ≤ 8) (hdd : 1 ≤ d)
    (hM : CT l G y2 cc2 nL2 ret2 (d - 1) 0 0 As Γ σ (PP (none) Γ σ2)) (kk : WP l G y cc nL ret d 0 0 Q 0 0 (pc + 3) lv (st) Γ σ2) : WP l G y cc nL ret d 0 0 Q 0 0 pc lv As' Γ σ := by
  subst has
  refine r_callS hd C hn rfl hst (by omega) (Nat.le_refl _) (Nat.le_refl _) hM ?_
  rintro v Γ' σ' ⟨rfl, rfl, rfl⟩
  exact kk
theorem r_table {x : Int32} {dflt lo hi : Int} {offs : Array Int} {len : Nat} (v : Int32) (off : Int) (tgt : Nat) (hd : decode cc pc = .ok (.tableswitch dflt lo hi offs, len)) (hx : x = v) (h1 : ¬ v.toInt < lo) (h2 : ¬ hi < v.toInt) (ho : offs[(v.toInt - lo).toNat]? = some off) (ht : (pc : Int) + off = (tgt : Int)) (kk : WP l G y cc nL ret d mc ms Q k n tgt lv st Γ σ) : WP l G y cc nL ret d mc ms Q k n pc lv (.int x :: st) Γ σ := by
  subst hx
  exact fun p e s m args below meth c H locs ls A Rp S L => lv_tableIn A.1 A.2.1 hd h1 h2 ho ht (kk p e s m args below meth c H locs ls A Rp S L)
theorem r_tableD {x : Int32} {dflt lo hi : Int} {offs : Array Int} {len : Nat} (tgt : Nat) (hd : decode cc pc = .ok (.tableswitch dflt lo hi offs, len)) (hx : x.toInt < lo ∨ hi < x.toInt) (ht : (pc : Int) + dflt = (tgt : Int)) (kk : WP l G y cc nL ret d mc ms Q k n tgt lv st Γ σ) : WP l G y cc nL ret d mc ms Q k n pc lv (.int x :: st) Γ σ :=
  fun p e s m args below meth c H locs ls A Rp S L => lv_tableOut A.1 A.2.1 hd hx ht (kk p e s m args below meth c H locs ls A Rp S L)
theorem r_lookup {x : Int32} {dflt : Int} {ps : Array (Int × Int)} {len : Nat} (off : Int) (tgt : Nat) (hd : decode cc pc = .ok (.lookupswitch dflt ps, len)) (hp : (ps.toList.zip (ps.toList.drop 1)).all (fun (a, next) => a.1 < next.1) = true) (ho : Op.lookupswitch.offset ps.toList dflt x.toInt = off) (ht : (pc : Int) + off = (tgt : Int)) (kk : WP l G y cc nL ret d mc ms Q k n tgt lv st Γ σ) : WP l G y cc nL ret d mc ms Q k n pc lv (.int x :: st) Γ σ :=
  fun p e s m args below meth c H locs ls A Rp S L => lv_lookup A.1 A.2.1 hd hp ho ht (kk p e s m args below meth c H locs ls A Rp S L)
theorem if_split {α : Type} {c : Prop} [Decidable c] {fa fb : Option α} {r : α} (h : (if c then fa else fb) = some r) : (c ∧ fa = some r) ∨ (¬ c ∧ fb = some r) := by
  by_cases q : c
  · rw [if_pos q] at h; exact Or.inl ⟨q, h⟩
  · rw [if_neg q] at h; exact Or.inr ⟨q, h⟩
theorem ne_int {x v : Int32} {z : Int} (h : ¬ x = v) (hz : v.toInt = z) : x.toInt ≠ z := fun q => h (Int32.toInt_inj.mp (q.trans hz.symm))
end C
