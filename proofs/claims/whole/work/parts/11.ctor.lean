/-! Rules of what is made: new cells, constructors. -/
def grow (Γ : ly) (sh : Nat × Nat) : ly := (Γ.1 + 1, fun q => if q = Γ.1 then sh else Γ.2 q)
def zc (σ : mm) (a : Nat) : mm := (up1 σ.1 a (fun _ => 0), up1 σ.2.1 a (fun _ => 0), up1 σ.2.2 a (fun _ => none))
def nwC {α : Type} (Γ : ly) (σ : mm) (sh : Nat × Nat) (F : ly → mm → Option α) : Option α := F (grow Γ sh) (zc σ Γ.1)
theorem grow_lt {Γ : ly} {sh : Nat × Nat} {b : Nat} (h : b < Γ.1) : (grow Γ sh).2 b = Γ.2 b := by
  show (if b = Γ.1 then sh else Γ.2 b) = _
  rw [if_neg (by omega)]
theorem grow_eq {Γ : ly} {sh : Nat × Nat} : (grow Γ sh).2 Γ.1 = sh := by
  show (if Γ.1 = Γ.1 then sh else Γ.2 Γ.1) = _
  rw [if_pos rfl]
theorem tyOK_grow {Γ : ly} {sh e : Nat × Nat} {b : Nat} (h : tyOK Γ e b) : tyOK (grow Γ sh) e b := by
  have key : ∀ {P : Nat × Nat → Prop}, (64 ≤ b ∧ b < Γ.1 ∧ P (Γ.2 b)) → (64 ≤ b ∧ b < (grow Γ sh).1 ∧ P ((grow Γ sh).2 b)) := by
    rintro P ⟨h1, h2, h3⟩
    exact ⟨h1, Nat.lt_succ_of_lt h2, by rw [grow_lt h2]; exact h3⟩
  obtain ⟨t, c⟩ := e
  unfold tyOK at h ⊢
  split at h
  · first | exact key (P := fun x => x = (0, c)) h | (next q => rw [show t = 0 from q]; exact key (P := fun x => x = (0, c)) h)
  · exact h
  · trivial
  · exact key (P := fun x => x.1 = t) h
theorem tyOK_new {Γ : ly} {ci : Nat} (h : 64 ≤ Γ.1) : tyOK (grow Γ (0, ci)) (0, ci) Γ.1 := ⟨h, Nat.lt_succ_self _, grow_eq⟩
theorem wtp_grow {Γ : ly} {σ : mm} {sh : Nat × Nat} (hw : wtp Γ σ) : wtp (grow Γ sh) (zc σ Γ.1) := by
  intro k hk hk2
  by_cases hkn : k = Γ.1
  · subst hkn
    refine ⟨fun _ j _ _ b hb => ?_, fun _ _ j _ b hb => ?_⟩
    · simp [zc, up1] at hb
    · simp [zc, up1] at hb
  · have hlt : k < Γ.1 := by have : k < Γ.1 + 1 := hk2; omega
    rw [grow_lt hlt]
    refine ⟨fun h0 j hj hj2 b hb => ?_, fun h5 h8 j hj b hb => ?_⟩
    · exact tyOK_grow ((hw k hk hlt).1 h0 j hj hj2 b (by simpa [zc, up1, hkn] using hb))
    · exact tyOK_grow ((hw k hk hlt).2 h5 h8 j hj b (by simpa [zc, up1, hkn] using hb))
theorem Rep.grown {G : gg} {Γ : ly} {σ : mm} {sh : Nat × Nat} {H H' : Heap} (Rp : Rep G Γ σ H) (hfr : G.1.2.2 = true) (hA : ∀ k, G.2.1 (64 + k) = G.1.1 + k) (hlim : G.2.1 (Γ.1 + 1) ≤ G.1.2.1) (z : H'.size = H.size + 1) (oq : ∀ q, q < H.size → H'[q]? = H[q]?) (hat : ∀ e, h_cell G sh (zc σ Γ.1) Γ.1 = some e → va_at G.2.2.1 vwCl (G.2.1 Γ.1, e) H') : Rep G (grow Γ sh) (zc σ Γ.1) H' := by
  refine ⟨⟨fun _ => ?_, hlim, fun _ _ _ _ => Rp.1.2.2.2 hfr _, Rp.1.2.2.2⟩, Nat.le_succ_of_le Rp.2.1, wtp_grow Rp.2.2.1, fun k e hk hk2 he => ?_⟩
  · show H'.size = G.2.1 (Γ.1 + 1)
    rw [z, Rp.1.1 hfr, ad_own hA Rp.2.1, ad_own hA (Nat.le_succ_of_le Rp.2.1)]
    have := Rp.2.1
    omega
  · by_cases hkn : k = Γ.1
    · subst hkn
      rw [grow_eq] at he
      exact hat e he
    · have hlt : k < Γ.1 := by have : k < Γ.1 + 1 := hk2; omega
      rw [grow_lt hlt, h_cell_same (σ := σ) (by show up1 _ _ _ k = _; rw [up1_ne hkn]) (by show up1 _ _ _ k = _; rw [up1_ne hkn]) (by show up1 _ _ _ k = _; rw [up1_ne hkn])] at he
      have h := Rp.2.2.2 k e hk hlt he
      exact h.kept (oq _ h.lt)
/-- what 'new' of a class of the picture needs of the tables -/
def NWd (own : String) (index ci : Nat) : Prop := ∃ (C : String) (T : u_T) (N : Nat) (ty : Nat → FieldType), vwCl[ci]? = some (C, T, N) ∧ c_n ci = N ∧ (∀ w ∈ u_ws C T N, w ∈ gw) ∧ (∀ k, k < N → parseFieldDescriptor (T k).2.2.1 = some (ty k)) ∧ (∀ j, j < N → defaultValue (ty j) = (match c_t ci j with | 0 => Value.int 0 | 1 => Value.long 0 | _ => Value.null)) ∧ Cond.classLink own index C ∈ gw ∧ Cond.instantiable C N ∈ gw ∧ Cond.initialized C ∈ gw
def CId (own : String) (index : Nat) (y2 : MethodName) (cc2 : ByteArray) (nL2 np : Nat) : Prop := Cond.methodLink own index y2 ∈ gw ∧ Cond.instanceMethod y2 ∈ gw ∧ Cond.initialized y2.cls ∈ gw ∧ Cond.code y2 cc2 nL2 none ∈ gw ∧ nL2 ≤ 22 ∧ y2.name = "<init>" ∧ (y2.cls ≠ "java/lang/invoke/MethodHandle" ∧ y2.cls ≠ "java/lang/invoke/VarHandle" ∧ (parseMethodDescriptor y2.desc).map (fun d => d.parameters.length) = some np)
def CINd (own : String) (index : Nat) (y2 : MethodName) (cc2 : ByteArray) (nL2 np : Nat) (host : String) : Prop := (∀ U : State, KN U → va_Nw (.methodLinkNest own index y2 host) U) ∧ Cond.instanceMethod y2 ∈ gw ∧ Cond.initialized y2.cls ∈ gw ∧ Cond.code y2 cc2 nL2 none ∈ gw ∧ nL2 ≤ 22 ∧ y2.name = "<init>" ∧ (y2.cls ≠ "java/lang/invoke/MethodHandle" ∧ y2.cls ≠ "java/lang/invoke/VarHandle" ∧ (parseMethodDescriptor y2.desc).map (fun d => d.parameters.length) = some np)
section N
variable {l : Launch} {G : gg} {y : MethodName} {cc : ByteArray} {nL : Nat} {ret : Option FieldType} {d mc ms : Nat} {Q : Option Value → ly → mm → Prop} {k n pc : Nat} {lv : List (Nat × Value)} {st : List Value} {Γ : ly} {σ : mm} {a : Nat}
theorem r_newa1 {x : Int32} {N : Nat} {α : Type} {F : ly → mm → Option α} {r : α} (hd : decode cc pc = .ok (.newarray .int, 2)) (hw : Cond.arrayClass .int ∈ gw) (hfr : G.1.2.2 = true) (hn : ¬ x < 0) (hN : x.toNatClampNeg = N) (hby : N * componentBytes .int ≤ 536870912) (hlim : G.2.1 (Γ.1 + 1) ≤ G.1.2.1) (hk : k + 1 ≤ mc) (hs : n + N ≤ ms) (hf : nwC Γ σ (1, N) F = some r) (kk : tyOK (grow Γ (1, N)) (1, 0) Γ.1 → F (grow Γ (1, N)) (zc σ Γ.1) = some r → WP l G y cc nL ret d mc ms Q (k + 1) (n + N) (pc + 2) lv (.ref (G.2.1 Γ.1) :: st) (grow Γ (1, N)) (zc σ Γ.1)) : WP l G y cc nL ret d mc ms Q k n pc lv (.int x :: st) Γ σ := by
  intro p e s m args below meth c H locs ls A Rp S L
  have hKK := A.2.2.2.2.2.2.2.2
  have hts : ∀ w ∈ gw, w.before args s = true := fun w h => A.2.2.2.2.1 w (List.mem_cons_of_mem _ h)
  have hsz := Rp.1.1 hfr
  refine va_newaK A.1 A.2.1 (atype := .int) (hts _ hw) rfl hd rfl hn hN hby hk hs hsz fun H1 cA e1 z1 o1 hAr hNm => ?_
  have hcA : cA = G.2.2.2.1 1 := Option.some.inj (hNm.symm.trans (hKK.1.2 1 _ rfl).2)
  subst hcA
  refine kk ⟨Rp.2.1, Nat.lt_succ_self _, by rw [grow_eq]⟩ hf p e s m args below meth c H1 locs ls A (Rp.grown hfr hKK.2.1 hlim (by rw [z1, hsz]) (fun q hq => o1 q (by rw [← hsz]; exact hq)) ?_) ⟨Nat.le_trans S.1 (by omega), fun q h1 h2 => (o1 q (by have := S.1; omega)).trans (S.2.1 q h1 h2), S.2.2⟩ L
  intro e he
  have he2 : h_cell G (1, N) (zc σ Γ.1) Γ.1 = some (.inl (G.2.2.2.1 1, N, (.inl ((zc σ Γ.1).1 Γ.1)))) := rfl
  rw [he2] at he
  cases he
  show H1[G.2.1 Γ.1]? = some (vp_cell _ _)
  rw [e1]
  simp [zc, up1, vp_cell, newarray.typeOf, defaultValue]
theorem r_newa2 {x : Int32} {N : Nat} {α : Type} {F : ly → mm → Option α} {r : α} (hd : decode cc pc = .ok (.newarray .byte, 2)) (hw : Cond.arrayClass .byte ∈ gw) (hfr : G.1.2.2 = true) (hn : ¬ x < 0) (hN : x.toNatClampNeg = N) (hby : N * componentBytes .byte ≤ 536870912) (hlim : G.2.1 (Γ.1 + 1) ≤ G.1.2.1) (hk : k + 1 ≤ mc) (hs : n + N ≤ ms) (hf : nwC Γ σ (2, N) F = some r) (kk : tyOK (grow Γ (2, N)) (2, 0) Γ.1 → F (grow Γ (2, N)) (zc σ Γ.1) = some r → WP l G y cc nL ret d mc ms Q (k + 1) (n + N) (pc + 2) lv (.ref (G.2.1 Γ.1) :: st) (grow Γ (2, N)) (zc σ Γ.1)) : WP l G y cc nL ret d mc ms Q k n pc lv (.int x :: st) Γ σ := by
  intro p e s m args below meth c H locs ls A Rp S L
  have hKK := A.2.2.2.2.2.2.2.2
  have hts : ∀ w ∈ gw, w.before args s = true := fun w h => A.2.2.2.2.1 w (List.mem_cons_of_mem _ h)
  have hsz := Rp.1.1 hfr
  refine va_newaK A.1 A.2.1 (atype := .byte) (hts _ hw) rfl hd rfl hn hN hby hk hs hsz fun H1 cA e1 z1 o1 hAr hNm => ?_
  have hcA : cA = G.2.2.2.1 2 := Option.some.inj (hNm.symm.trans (hKK.1.2 2 _ rfl).2)
  subst hcA
  refine kk ⟨Rp.2.1, Nat.lt_succ_self _, by rw [grow_eq]⟩ hf p e s m args below meth c H1 locs ls A (Rp.grown hfr hKK.2.1 hlim (by rw [z1, hsz]) (fun q hq => o1 q (by rw [← hsz]; exact hq)) ?_) ⟨Nat.le_trans S.1 (by omega), fun q h1 h2 => (o1 q (by have := S.1; omega)).trans (S.2.1 q h1 h2), S.2.2⟩ L
  intro e he
  have he2 : h_cell G (2, N) (zc σ Γ.1) Γ.1 = some (.inl (G.2.2.2.1 2, N, (.inl ((zc σ Γ.1).1 Γ.1)))) := rfl
  rw [he2] at he
  cases he
  show H1[G.2.1 Γ.1]? = some (vp_cell _ _)
  rw [e1]
  simp [zc, up1, vp_cell, newarray.typeOf, defaultValue]
theorem r_newa3 {x : Int32} {N : Nat} {α : Type} {F : ly → mm → Option α} {r : α} (hd : decode cc pc = .ok (.newarray .boolean, 2)) (hw : Cond.arrayClass .boolean ∈ gw) (hfr : G.1.2.2 = true) (hn : ¬ x < 0) (hN : x.toNatClampNeg = N) (hby : N * componentBytes .boolean ≤ 536870912) (hlim : G.2.1 (Γ.1 + 1) ≤ G.1.2.1) (hk : k + 1 ≤ mc) (hs : n + N ≤ ms) (hf : nwC Γ σ (3, N) F = some r) (kk : tyOK (grow Γ (3, N)) (3, 0) Γ.1 → F (grow Γ (3, N)) (zc σ Γ.1) = some r → WP l G y cc nL ret d mc ms Q (k + 1) (n + N) (pc + 2) lv (.ref (G.2.1 Γ.1) :: st) (grow Γ (3, N)) (zc σ Γ.1)) : WP l G y cc nL ret d mc ms Q k n pc lv (.int x :: st) Γ σ := by
  intro p e s m args below meth c H locs ls A Rp S L
  have hKK := A.2.2.2.2.2.2.2.2
  have hts : ∀ w ∈ gw, w.before args s = true := fun w h => A.2.2.2.2.1 w (List.mem_cons_of_mem _ h)
  have hsz := Rp.1.1 hfr
  refine va_newaK A.1 A.2.1 (atype := .boolean) (hts _ hw) rfl hd rfl hn hN hby hk hs hsz fun H1 cA e1 z1 o1 hAr hNm => ?_
  have hcA : cA = G.2.2.2.1 3 := Option.some.inj (hNm.symm.trans (hKK.1.2 3 _ rfl).2)
  subst hcA
  refine kk ⟨Rp.2.1, Nat.lt_succ_self _, by rw [grow_eq]⟩ hf p e s m args below meth c H1 locs ls A (Rp.grown hfr hKK.2.1 hlim (by rw [z1, hsz]) (fun q hq => o1 q (by rw [← hsz]; exact hq)) ?_) ⟨Nat.le_trans S.1 (by omega), fun q h1 h2 => (o1 q (by have := S.1; omega)).trans (S.2.1 q h1 h2), S.2.2⟩ L
  intro e he
  have he2 : h_cell G (3, N) (zc σ Γ.1) Γ.1 = some (.inl (G.2.2.2.1 3, N, (.inl ((zc σ Γ.1).1 Γ.1)))) := rfl
  rw [he2] at he
  cases he
  show H1[G.2.1 Γ.1]? = some (vp_cell _ _)
  rw [e1]
  simp [zc, up1, vp_cell, newarray.typeOf, defaultValue]
theorem r_newa4 {x : Int32} {N : Nat} {α : Type} {F : ly → mm → Option α} {r : α} (hd : decode cc pc = .ok (.newarray .long, 2)) (hw : Cond.arrayClass .long ∈ gw) (hfr : G.1.2.2 = true) (hn : ¬ x < 0) (hN : x.toNatClampNeg = N) (hby : N * componentBytes .long ≤ 536870912) (hlim : G.2.1 (Γ.1 + 1) ≤ G.1.2.1) (hk : k + 1 ≤ mc) (hs : n + N ≤ ms) (hf : nwC Γ σ (4, N) F = some r) (kk : tyOK (grow Γ (4, N)) (4, 0) Γ.1 → F (grow Γ (4, N)) (zc σ Γ.1) = some r → WP l G y cc nL ret d mc ms Q (k + 1) (n + N) (pc + 2) lv (.ref (G.2.1 Γ.1) :: st) (grow Γ (4, N)) (zc σ Γ.1)) : WP l G y cc nL ret d mc ms Q k n pc lv (.int x :: st) Γ σ := by
  intro p e s m args below meth c H locs ls A Rp S L
  have hKK := A.2.2.2.2.2.2.2.2
  have hts : ∀ w ∈ gw, w.before args s = true := fun w h => A.2.2.2.2.1 w (List.mem_cons_of_mem _ h)
  have hsz := Rp.1.1 hfr
  refine va_newaK A.1 A.2.1 (atype := .long) (hts _ hw) rfl hd rfl hn hN hby hk hs hsz fun H1 cA e1 z1 o1 hAr hNm => ?_
  have hcA : cA = G.2.2.2.1 4 := Option.some.inj (hNm.symm.trans (hKK.1.2 4 _ rfl).2)
  subst hcA
  refine kk ⟨Rp.2.1, Nat.lt_succ_self _, by rw [grow_eq]⟩ hf p e s m args below meth c H1 locs ls A (Rp.grown hfr hKK.2.1 hlim (by rw [z1, hsz]) (fun q hq => o1 q (by rw [← hsz]; exact hq)) ?_) ⟨Nat.le_trans S.1 (by omega), fun q h1 h2 => (o1 q (by have := S.1; omega)).trans (S.2.1 q h1 h2), S.2.2⟩ L
  intro e he
  have he2 : h_cell G (4, N) (zc σ Γ.1) Γ.1 = some (.inl (G.2.2.2.1 4, N, (.inr (.inl ((zc σ Γ.1).2.1 Γ.1))))) := rfl
  rw [he2] at he
  cases he
  show H1[G.2.1 Γ.1]? = some (vp_cell _ _)
  rw [e1]
  simp [zc, up1, vp_cell, newarray.typeOf, defaultValue]
theorem r_newq5 {x : Int32} {index N : Nat} {α : Type} {F : ly → mm → Option α} {r : α} (hd : decode cc pc = .ok (.anewarray index, 3)) (hw : Cond.classLink y.cls index "GlassVows$Life" ∈ gw) (hfr : G.1.2.2 = true) (hn : ¬ x < 0) (hN : x.toNatClampNeg = N) (hby : N * 4 ≤ 536870912) (hlim : G.2.1 (Γ.1 + 1) ≤ G.1.2.1) (hk : k + 1 ≤ mc) (hs : n + N ≤ ms) (hf : nwC Γ σ (5, N) F = some r) (kk : tyOK (grow Γ (5, N)) (5, 0) Γ.1 → F (grow Γ (5, N)) (zc σ Γ.1) = some r → WP l G y cc nL ret d mc ms Q (k + 1) (n + N) (pc + 3) lv (.ref (G.2.1 Γ.1) :: st) (grow Γ (5, N)) (zc σ Γ.1)) : WP l G y cc nL ret d mc ms Q k n pc lv (.int x :: st) Γ σ := by
  intro p e s m args below meth c H locs ls A Rp S L
  have hKK := A.2.2.2.2.2.2.2.2
  have hts : ∀ w ∈ gw, w.before args s = true := fun w h => A.2.2.2.2.1 w (List.mem_cons_of_mem _ h)
  have hsz := Rp.1.1 hfr
  subst hN
  refine W.anew A.1 A.2.1 A.2.2.2.1 (hts _ hw) (va_AO.use hKK.kx.1) rfl hd rfl hn hby hk hs fun cA kA comp f1 f2 f3 f4 => ?_
  have hcA : cA = G.2.2.2.1 5 := by
    obtain ⟨kA', comp', g1, g2, g3, g4⟩ := (hKK.1.2 5 _ rfl).2
    exact Option.some.inj (f1.symm.trans g4)
  subst hcA
  generalize hH1 : H.push ({ cls := G.2.2.2.1 5, slots := Array.replicate x.toNatClampNeg .null, vm := .none } : Cell) = H1
  have z1 : H1.size = H.size + 1 := by rw [← hH1, Array.size_push]
  have e1 : H1[H.size]? = some (arrV (G.2.2.2.1 5) x.toNatClampNeg (fun _ => .null)) := by rw [← hH1, Array.getElem?_push_size, ← arrV_new]
  have o1 : ∀ q : Nat, q < H.size → H1[q]? = H[q]? := fun q hq => by rw [← hH1, Array.getElem?_push, if_neg (Nat.ne_of_lt hq)]
  rw [hsz] at e1
  show W p l e _ s m args below meth c H1 locs (k + 1) (n + x.toNatClampNeg) _ (F0 m (pc + 3) ls (.ref H.size :: st))
  rw [hsz]
  refine kk ⟨Rp.2.1, Nat.lt_succ_self _, by rw [grow_eq]⟩ hf p e s m args below meth c H1 locs ls A (Rp.grown hfr hKK.2.1 hlim z1 o1 ?_) ⟨Nat.le_trans S.1 (by omega), fun q h1 h2 => (o1 q (by have := S.1; omega)).trans (S.2.1 q h1 h2), S.2.2⟩ L
  intro e he
  have he2 : h_cell G (5, x.toNatClampNeg) (zc σ Γ.1) Γ.1 = some (.inl (G.2.2.2.1 5, x.toNatClampNeg, .inr (.inr (.inr (.inr fun j => ((zc σ Γ.1).2.2 Γ.1 j).map G.2.1))))) := rfl
  rw [he2] at he
  cases he
  show H1[G.2.1 Γ.1]? = some (vp_cell _ _)
  rw [e1]
  simp [zc, up1, vp_cell, va_rf]
theorem r_newq6 {x : Int32} {index N : Nat} {α : Type} {F : ly → mm → Option α} {r : α} (hd : decode cc pc = .ok (.anewarray index, 3)) (hw : Cond.classLink y.cls index "GlassVows$Parish" ∈ gw) (hfr : G.1.2.2 = true) (hn : ¬ x < 0) (hN : x.toNatClampNeg = N) (hby : N * 4 ≤ 536870912) (hlim : G.2.1 (Γ.1 + 1) ≤ G.1.2.1) (hk : k + 1 ≤ mc) (hs : n + N ≤ ms) (hf : nwC Γ σ (6, N) F = some r) (kk : tyOK (grow Γ (6, N)) (6, 0) Γ.1 → F (grow Γ (6, N)) (zc σ Γ.1) = some r → WP l G y cc nL ret d mc ms Q (k + 1) (n + N) (pc + 3) lv (.ref (G.2.1 Γ.1) :: st) (grow Γ (6, N)) (zc σ Γ.1)) : WP l G y cc nL ret d mc ms Q k n pc lv (.int x :: st) Γ σ := by
  intro p e s m args below meth c H locs ls A Rp S L
  have hKK := A.2.2.2.2.2.2.2.2
  have hts : ∀ w ∈ gw, w.before args s = true := fun w h => A.2.2.2.2.1 w (List.mem_cons_of_mem _ h)
  have hsz := Rp.1.1 hfr
  subst hN
  refine W.anew A.1 A.2.1 A.2.2.2.1 (hts _ hw) (va_AO.use hKK.kx.2.1) rfl hd rfl hn hby hk hs fun cA kA comp f1 f2 f3 f4 => ?_
  have hcA : cA = G.2.2.2.1 6 := by
    obtain ⟨kA', comp', g1, g2, g3, g4⟩ := (hKK.1.2 6 _ rfl).2
    exact Option.some.inj (f1.symm.trans g4)
  subst hcA
  generalize hH1 : H.push ({ cls := G.2.2.2.1 6, slots := Array.replicate x.toNatClampNeg .null, vm := .none } : Cell) = H1
  have z1 : H1.size = H.size + 1 := by rw [← hH1, Array.size_push]
  have e1 : H1[H.size]? = some (arrV (G.2.2.2.1 6) x.toNatClampNeg (fun _ => .null)) := by rw [← hH1, Array.getElem?_push_size, ← arrV_new]
  have o1 : ∀ q : Nat, q < H.size → H1[q]? = H[q]? := fun q hq => by rw [← hH1, Array.getElem?_push, if_neg (Nat.ne_of_lt hq)]
  rw [hsz] at e1
  show W p l e _ s m args below meth c H1 locs (k + 1) (n + x.toNatClampNeg) _ (F0 m (pc + 3) ls (.ref H.size :: st))
  rw [hsz]
  refine kk ⟨Rp.2.1, Nat.lt_succ_self _, by rw [grow_eq]⟩ hf p e s m args below meth c H1 locs ls A (Rp.grown hfr hKK.2.1 hlim z1 o1 ?_) ⟨Nat.le_trans S.1 (by omega), fun q h1 h2 => (o1 q (by have := S.1; omega)).trans (S.2.1 q h1 h2), S.2.2⟩ L
  intro e he
  have he2 : h_cell G (6, x.toNatClampNeg) (zc σ Γ.1) Γ.1 = some (.inl (G.2.2.2.1 6, x.toNatClampNeg, .inr (.inr (.inr (.inr fun j => ((zc σ Γ.1).2.2 Γ.1 j).map G.2.1))))) := rfl
  rw [he2] at he
  cases he
  show H1[G.2.1 Γ.1]? = some (vp_cell _ _)
  rw [e1]
  simp [zc, up1, vp_cell, va_rf]
theorem r_newq7 {x : Int32} {index N : Nat} {α : Type} {F : ly → mm → Option α} {r : α} (hd : decode cc pc = .ok (.anewarray index, 3)) (hw : Cond.classLink y.cls index "GlassVows$Sentence" ∈ gw) (hfr : G.1.2.2 = true) (hn : ¬ x < 0) (hN : x.toNatClampNeg = N) (hby : N * 4 ≤ 536870912) (hlim : G.2.1 (Γ.1 + 1) ≤ G.1.2.1) (hk : k + 1 ≤ mc) (hs : n + N ≤ ms) (hf : nwC Γ σ (7, N) F = some r) (kk : tyOK (grow Γ (7, N)) (7, 0) Γ.1 → F (grow Γ (7, N)) (zc σ Γ.1) = some r → WP l G y cc nL ret d mc ms Q (k + 1) (n + N) (pc + 3) lv (.ref (G.2.1 Γ.1) :: st) (grow Γ (7, N)) (zc σ Γ.1)) : WP l G y cc nL ret d mc ms Q k n pc lv (.int x :: st) Γ σ := by
  intro p e s m args below meth c H locs ls A Rp S L
  have hKK := A.2.2.2.2.2.2.2.2
  have hts : ∀ w ∈ gw, w.before args s = true := fun w h => A.2.2.2.2.1 w (List.mem_cons_of_mem _ h)
  have hsz := Rp.1.1 hfr
  subst hN
  refine W.anew A.1 A.2.1 A.2.2.2.1 (hts _ hw) (va_AO.use hKK.kx.2.2.1) rfl hd rfl hn hby hk hs fun cA kA comp f1 f2 f3 f4 => ?_
  have hcA : cA = G.2.2.2.1 7 := by
    obtain ⟨kA', comp', g1, g2, g3, g4⟩ := (hKK.1.2 7 _ rfl).2
    exact Option.some.inj (f1.symm.trans g4)
  subst hcA
  generalize hH1 : H.push ({ cls := G.2.2.2.1 7, slots := Array.replicate x.toNatClampNeg .null, vm := .none } : Cell) = H1
  have z1 : H1.size = H.size + 1 := by rw [← hH1, Array.size_push]
  have e1 : H1[H.size]? = some (arrV (G.2.2.2.1 7) x.toNatClampNeg (fun _ => .null)) := by rw [← hH1, Array.getElem?_push_size, ← arrV_new]
  have o1 : ∀ q : Nat, q < H.size → H1[q]? = H[q]? := fun q hq => by rw [← hH1, Array.getElem?_push, if_neg (Nat.ne_of_lt hq)]
  rw [hsz] at e1
  show W p l e _ s m args below meth c H1 locs (k + 1) (n + x.toNatClampNeg) _ (F0 m (pc + 3) ls (.ref H.size :: st))
  rw [hsz]
  refine kk ⟨Rp.2.1, Nat.lt_succ_self _, by rw [grow_eq]⟩ hf p e s m args below meth c H1 locs ls A (Rp.grown hfr hKK.2.1 hlim z1 o1 ?_) ⟨Nat.le_trans S.1 (by omega), fun q h1 h2 => (o1 q (by have := S.1; omega)).trans (S.2.1 q h1 h2), S.2.2⟩ L
  intro e he
  have he2 : h_cell G (7, x.toNatClampNeg) (zc σ Γ.1) Γ.1 = some (.inl (G.2.2.2.1 7, x.toNatClampNeg, .inr (.inr (.inr (.inr fun j => ((zc σ Γ.1).2.2 Γ.1 j).map G.2.1))))) := rfl
  rw [he2] at he
  cases he
  show H1[G.2.1 Γ.1]? = some (vp_cell _ _)
  rw [e1]
  simp [zc, up1, vp_cell, va_rf]
theorem r_newq8 {x : Int32} {index N : Nat} {α : Type} {F : ly → mm → Option α} {r : α} (hd : decode cc pc = .ok (.anewarray index, 3)) (hw : Cond.classLink y.cls index "GlassVows$Word" ∈ gw) (hfr : G.1.2.2 = true) (hn : ¬ x < 0) (hN : x.toNatClampNeg = N) (hby : N * 4 ≤ 536870912) (hlim : G.2.1 (Γ.1 + 1) ≤ G.1.2.1) (hk : k + 1 ≤ mc) (hs : n + N ≤ ms) (hf : nwC Γ σ (8, N) F = some r) (kk : tyOK (grow Γ (8, N)) (8, 0) Γ.1 → F (grow Γ (8, N)) (zc σ Γ.1) = some r → WP l G y cc nL ret d mc ms Q (k + 1) (n + N) (pc + 3) lv (.ref (G.2.1 Γ.1) :: st) (grow Γ (8, N)) (zc σ Γ.1)) : WP l G y cc nL ret d mc ms Q k n pc lv (.int x :: st) Γ σ := by
  intro p e s m args below meth c H locs ls A Rp S L
  have hKK := A.2.2.2.2.2.2.2.2
  have hts : ∀ w ∈ gw, w.before args s = true := fun w h => A.2.2.2.2.1 w (List.mem_cons_of_mem _ h)
  have hsz := Rp.1.1 hfr
  subst hN
  refine W.anew A.1 A.2.1 A.2.2.2.1 (hts _ hw) (va_AO.use hKK.kx.2.2.2.1) rfl hd rfl hn hby hk hs fun cA kA comp f1 f2 f3 f4 => ?_
  have hcA : cA = G.2.2.2.1 8 := by
    obtain ⟨kA', comp', g1, g2, g3, g4⟩ := (hKK.1.2 8 _ rfl).2
    exact Option.some.inj (f1.symm.trans g4)
  subst hcA
  generalize hH1 : H.push ({ cls := G.2.2.2.1 8, slots := Array.replicate x.toNatClampNeg .null, vm := .none } : Cell) = H1
  have z1 : H1.size = H.size + 1 := by rw [← hH1, Array.size_push]
  have e1 : H1[H.size]? = some (arrV (G.2.2.2.1 8) x.toNatClampNeg (fun _ => .null)) := by rw [← hH1, Array.getElem?_push_size, ← arrV_new]
  have o1 : ∀ q : Nat, q < H.size → H1[q]? = H[q]? := fun q hq => by rw [← hH1, Array.getElem?_push, if_neg (Nat.ne_of_lt hq)]
  rw [hsz] at e1
  show W p l e _ s m args below meth c H1 locs (k + 1) (n + x.toNatClampNeg) _ (F0 m (pc + 3) ls (.ref H.size :: st))
  rw [hsz]
  refine kk ⟨Rp.2.1, Nat.lt_succ_self _, by rw [grow_eq]⟩ hf p e s m args below meth c H1 locs ls A (Rp.grown hfr hKK.2.1 hlim z1 o1 ?_) ⟨Nat.le_trans S.1 (by omega), fun q h1 h2 => (o1 q (by have := S.1; omega)).trans (S.2.1 q h1 h2), S.2.2⟩ L
  intro e he
  have he2 : h_cell G (8, x.toNatClampNeg) (zc σ Γ.1) Γ.1 = some (.inl (G.2.2.2.1 8, x.toNatClampNeg, .inr (.inr (.inr (.inr fun j => ((zc σ Γ.1).2.2 Γ.1 j).map G.2.1))))) := rfl
  rw [he2] at he
  cases he
  show H1[G.2.1 Γ.1]? = some (vp_cell _ _)
  rw [e1]
  simp [zc, up1, vp_cell, va_rf]
theorem r_new {index ci : Nat} {α : Type} {F : ly → mm → Option α} {r : α} (hd : decode cc pc = .ok (.new index, 3)) (D : NWd y.cls index ci) (hfr : G.1.2.2 = true) (hlim : G.2.1 (Γ.1 + 1) ≤ G.1.2.1) (hk : k + 1 ≤ mc) (hs : n + c_n ci ≤ ms) (hf : nwC Γ σ (0, ci) F = some r) (kk : tyOK (grow Γ (0, ci)) (0, ci) Γ.1 → F (grow Γ (0, ci)) (zc σ Γ.1) = some r → WP l G y cc nL ret d mc ms Q (k + 1) (n + c_n ci) (pc + 3) lv (.ref (G.2.1 Γ.1) :: st) (grow Γ (0, ci)) (zc σ Γ.1)) : WP l G y cc nL ret d mc ms Q k n pc lv st Γ σ := by
  intro p e s m args below meth c H locs ls A Rp S L
  obtain ⟨C, T, N, ty, hc, hN, hin, hty, hdf, w1, w2, w3⟩ := D
  have hKK := A.2.2.2.2.2.2.2.2
  have hts : ∀ w ∈ gw, w.before args s = true := fun w h => A.2.2.2.2.1 w (List.mem_cons_of_mem _ h)
  have hsz := Rp.1.1 hfr
  have hKn := hKK.1.1 ci _ hc
  refine W.newcK A.1 A.2.1 A.2.2.2.1 (hts _ w1) (hts _ w2) (hts _ w3) rfl hd hk (by rw [← hN]; exact hs) hKn.2.1 hsz fun H1 kC hkC e1 z1 o1 => ?_
  rw [← hN]
  refine kk (tyOK_new Rp.2.1) hf p e s m args below meth c H1 locs ls A (Rp.grown hfr hKK.2.1 hlim (by rw [z1, hsz]) (fun q hq => o1 q (by rw [← hsz]; exact hq)) ?_) ⟨Nat.le_trans S.1 (by omega), fun q h1 h2 => (o1 q (by have := S.1; omega)).trans (S.2.1 q h1 h2), S.2.2⟩ L
  intro e he
  have he2 : h_cell G (0, ci) (zc σ Γ.1) Γ.1 = some (.inr (ci, h_fs G (zc σ Γ.1) ci Γ.1)) := rfl
  rw [he2] at he
  cases he
  refine ⟨_, hc, (u_born ty hts hin hKn hkC e1 hty).to (fun j hj => ?_)⟩
  rw [h_fs_V (by rw [hN]; exact hj), hdf j hj]
  unfold h_v
  simp only [zc, up1, if_true]
  generalize c_t ci j = t9
  match t9 with
  | 0 => rfl
  | 1 => rfl
  | t + 2 => rfl
theorem r_objInit {index : Nat} (hd : decode cc pc = .ok (.invokespecial index, 3)) (h1 : Cond.methodLink y.cls index Lib.objectInit ∈ gw) (h2 : Cond.instanceMethod Lib.objectInit ∈ gw) (h3 : Cond.code Lib.objectInit ⟨#[0xb1]⟩ 1 none ∈ gw) (hdd : 1 ≤ d) (hst : (st.map fun v => v.category).sum ≤ 8) (kk : WP l G y cc nL ret d mc ms Q k n (pc + 3) lv st Γ σ) : WP l G y cc nL ret d mc ms Q k n pc lv (.ref (G.2.1 a) :: st) Γ σ := by
  intro p e s m args below meth c H locs ls A Rp S L
  have hts : ∀ w ∈ gw, w.before args s = true := fun w h => A.2.2.2.2.1 w (List.mem_cons_of_mem _ h)
  refine W.objInit A.1 A.2.1 A.2.2.2.1 (hts _ h1) (hts _ h2) (hts _ h3) rfl (by rw [A.2.2.1]; exact L.1) rfl hd (show 1 ≤ d from hdd) (by show 2 * 0 + _ + 12 ≤ 41 * d + 32; omega) ?_
  exact kk p e s m args below meth c H locs ls A Rp S L
theorem r_putF {index ci j t : Nat} {fty : FieldType} {v : Value} {σ' : mm} (hd : decode cc pc = .ok (.putfield index, 3)) (F : FD y.cls index ci j t fty true) (hyn : y.name = "<init>") (hyc : ∀ C T N, vwCl[ci]? = some (C, T, N) → (T j).1 = y.cls) (ht : tyOK Γ (0, ci) a) (hn : narrow fty v = v) (hfit : fits fty v = true) (h1 : ∀ k, k ≠ a → σ'.1 k = σ.1 k) (h2 : ∀ k, k ≠ a → σ'.2.1 k = σ.2.1 k) (h3 : ∀ k, k ≠ a → σ'.2.2 k = σ.2.2 k) (hw : wtp Γ σ → wtp Γ σ') (hv : ∀ i, i < c_n ci → h_v G σ' (c_t ci i) a i = if i = j then v else h_v G σ (c_t ci i) a i) (kk : WP l G y cc nL ret d mc ms Q k n (pc + 3) lv st Γ σ') : WP l G y cc nL ret d mc ms Q k n pc lv (v :: .ref (G.2.1 a) :: st) Γ σ := by
  intro p e s m args below meth c H locs ls A Rp S L
  obtain ⟨C, T, N, ty, hc, hN, hin, hty, hnm, hj, hkt, htj, hfin, hlink⟩ := F
  have hdecl := hyc C T N hc
  have hts : ∀ w ∈ gw, w.before args s = true := fun w h => A.2.2.2.2.1 w (List.mem_cons_of_mem _ h)
  have hKK := A.2.2.2.2.2.2.2.2
  have hK := hKK.1
  have hap := va_apart (own := y.cls) hts hin ty hty hnm hK hc
  obtain ⟨r, hr1, cell, q1, q2, q3, q4⟩ := Rp.obj ht
  have hr : r = (C, T, N) := Option.some.inj (hr1.symm.trans hc)
  subst hr
  obtain ⟨hS, hfc, kC, hkC, hkind⟩ := hK.1 ci _ hc
  obtain ⟨cf, kf, fi, f, hi, hsl⟩ := hS j hj
  have hlay := hts _ (hin _ (u_in_lay hj))
  unfold u_lay at hlay
  rw [if_pos hfin] at hlay
  have hst := (u_facts hfc hkC (u_lays hts hin hj) hi).1
  have hcf : m.cls = cf := by
    obtain ⟨_, _, c', _, _, _, -, -, hf', -, -, -, hown2, -⟩ := Cond.laysFinal_spec hlay
    have e1 : c' = cf := by have := hi.symm.trans hf'; simp at this; exact this.1.symm
    rw [hdecl] at hown2
    rw [← e1]; exact Option.some.inj (A.2.2.2.1.symm.trans hown2)
  have h6 := u_fits hfc hkC hkind (Or.inr hlay) hi (hty j hj) (by rw [htj]; exact hn) (by rw [htj]; exact hfit)
  refine W.putFinK A.1 A.2.1 A.2.2.2.1 (hts _ hlink) hi hst hcf (A.2.2.2.2.2.2.2.1.trans hyn) (by rw [q2]; exact h6) q1 q3 (by rw [hsl]; exact k2_hasslot (q4 j hj)) rfl rfl hd fun H' e1 e2 e3 => ?_
  rw [hsl] at e1 ⊢
  obtain ⟨g1, g2, g3⟩ := id ht
  refine kk p e s m args below meth c H' _ ls A (Rp.store hKK.2.1 g1 h1 h2 h3 e2 e3 (hw Rp.2.2.1) ?_) (S.put e2 e3 (Rp.own hKK.2.1 g1 g2 (by rw [g3]; exact (by decide : (0 : Nat) ≠ 99)))) L
  intro e he
  rw [g3] at he
  cases he
  refine ⟨_, hc, t_OB.to (V := updV (vp_V (h_fs G σ ci a)) j v) ⟨_, e1, q2, q3, t_set q4 hap hj v⟩ (fun i hi => ?_)⟩
  rw [h_fs_V (by rw [hN]; exact hi), hv i (by rw [hN]; exact hi)]
  unfold updV
  by_cases hij : i = j
  · simp [hij]
  · simp [hij, h_fs_V (G := G) (σ := σ) (k := a) (show i < c_n ci by rw [hN]; exact hi)]
theorem q_putFR {index ci j b : Nat} {fty : FieldType} {e9 : Nat × Nat} {α : Type} {F : mm → Option α} {r : α} (hd : decode cc pc = .ok (.putfield index, 3)) (D : FD y.cls index ci j 2 fty true) (hyn : y.name = "<init>") (hyc : ∀ C T N, vwCl[ci]? = some (C, T, N) → (T j).1 = y.cls) (hfo : (∃ C, fty = .object C) ∨ ∃ t, fty = .array t) (ht : tyOK Γ (0, ci) a) (he : c_r ci j = e9) (hb : tyOK Γ e9 b) (hf : wR σ a j b F = some r) (kk : ∀ σ', F σ' = some r → WP l G y cc nL ret d mc ms Q k n (pc + 3) lv st Γ σ') : WP l G y cc nL ret d mc ms Q k n pc lv (.ref (G.2.1 b) :: .ref (G.2.1 a) :: st) Γ σ := by
  have hkt : c_t ci j = 2 := by obtain ⟨C, T, N, ty, hc, hN, hin, hty, hnm, hj, hkt, -⟩ := D; exact hkt
  have hnf : narrow fty (.ref (G.2.1 b)) = .ref (G.2.1 b) ∧ fits fty (.ref (G.2.1 b)) = true := by
    rcases hfo with ⟨C9, rfl⟩ | ⟨C9, rfl⟩ <;> exact ⟨rfl, rfl⟩
  refine r_putF (σ' := (σ.1, σ.2.1, up2 σ.2.2 a j (some b))) hd D hyn hyc ht hnf.1 hnf.2 (fun _ _ => rfl) (fun _ _ => rfl) (fun k hk => up2_ne hk) (fun h => wtp_put h ht (he ▸ hb)) (fun i hi => ?_) (kk _ hf)
  by_cases hij : i = j
  · subst hij
    rw [if_pos rfl, hkt]
    simp [h_v, up2, va_rf]
  · rw [if_neg hij]
    unfold h_v
    simp [up2_eq, hij]
theorem r_callI {index : Nat} {y2 : MethodName} {cc2 : ByteArray} {nL2 np d2 mc2 ms2 : Nat} (As : List Value) {As' : List Value} {Q2 : Option Value → ly → mm → Prop} (hd : decode cc pc = .ok (.invokespecial index, 3)) (C : CId y.cls index y2 cc2 nL2 np) (hn : As.length = np) (has : As.reverse ++ .ref (G.2.1 a) :: st = As') (hst : (st.map fun v => v.category).sum ≤ 8) (hdd : d2 + 1 ≤ d) (hm1 : k + mc2 ≤ mc) (hm2 : n + ms2 ≤ ms)
    (hM : CT l G y2 cc2 nL2 none d2 mc2 ms2 (.ref (G.2.1 a) :: As) Γ σ Q2) (kk : ∀ v Γ' σ', Q2 v Γ' σ' → WP l G y cc nL ret d mc ms Q (k + mc2) (n + ms2) (pc + 3) lv (v.toList ++ st) Γ' σ') : WP l G y cc nL ret d mc ms Q k n pc lv As' Γ σ := by
  intro p e s m args below meth c H locs ls A Rp S L
  obtain ⟨c1, c2, c3, c4, c5, c6, c7⟩ := C
  have hKK := A.2.2.2.2.2.2.2.2
  subst has
  have hts := A.2.2.2.2.1
  refine r_run (va_runI (Ts := Cond.code y cc nL ret :: gw) (As := As) ⟨A.1, A.2.1, A.2.2.1, A.2.2.2.1, hts⟩ hM ⟨callB_of np hts (gi_gw (fun w hw => ?_)) rfl rfl rfl (hts _ (List.mem_cons_of_mem _ c3)) (hts _ (List.mem_cons_of_mem _ c1)) c7 ⟨?_, ?_⟩, c6, hts _ (List.mem_cons_of_mem _ c2)⟩ ⟨pc_blind, fun U hU hW => ⟨rfl, by rw [hU]; exact Rp, hKK.at S hU hW⟩⟩ rfl hn L.1 rfl (lv_room hst) hd ⟨hm1, hm2⟩) A S L kk
  · rcases List.mem_cons.mp hw with rfl | h
    · exact c4
    · exact h
  · exact hdd
  · show 8 + (nL2 + 11) + (41 * d2 + 32) ≤ 41 * d + 32
    omega
theorem r_callIN {index : Nat} {y2 : MethodName} {host : String} {cc2 : ByteArray} {nL2 np d2 mc2 ms2 : Nat} (As : List Value) {As' : List Value} {Q2 : Option Value → ly → mm → Prop} (hd : decode cc pc = .ok (.invokespecial index, 3)) (C : CINd y.cls index y2 cc2 nL2 np host) (hn : As.length = np) (has : As.reverse ++ .ref (G.2.1 a) :: st = As') (hst : (st.map fun v => v.category).sum ≤ 8) (hdd : d2 + 1 ≤ d) (hm1 : k + mc2 ≤ mc) (hm2 : n + ms2 ≤ ms)
    (hM : CT l G y2 cc2 nL2 none d2 mc2 ms2 (.ref (G.2.1 a) :: As) Γ σ Q2) (kk : ∀ v Γ' σ', Q2 v Γ' σ' → WP l G y cc nL ret d mc ms Q (k + mc2) (n + ms2) (pc + 3) lv (v.toList ++ st) Γ' σ') : WP l G y cc nL ret d mc ms Q k n pc lv As' Γ σ := by
  intro p e s m args below meth c H locs ls A Rp S L
  obtain ⟨c1, c2, c3, c4, c5, c6, c7⟩ := C
  have hKK := A.2.2.2.2.2.2.2.2
  subst has
  have hts := A.2.2.2.2.1
  refine r_run (va_runIN (Ts := Cond.code y cc nL ret :: gw) (As := As) ⟨A.1, A.2.1, A.2.2.1, A.2.2.2.1, hts⟩ hM ⟨va_cnB np hts (gi_gw (fun w hw => ?_)) rfl rfl rfl (c1 s hKK.2.2.2) (hts _ (List.mem_cons_of_mem _ c3)) c7 ⟨?_, ?_⟩, c6, hts _ (List.mem_cons_of_mem _ c2)⟩ ⟨pc_blind, fun U hU hW => ⟨rfl, by rw [hU]; exact Rp, hKK.at S hU hW⟩⟩ rfl hn L.1 rfl (lv_room hst) hd ⟨hm1, hm2⟩) A S L kk
  · rcases List.mem_cons.mp hw with rfl | h
    · exact c4
    · exact h
  · exact hdd
  · show 8 + (nL2 + 11) + (41 * d2 + 32) ≤ 41 * d + 32
    omega
end N
def bdC {β : Type} (o : Option (ly × mm)) (F : ly → mm → Option β) : Option β := o.bind (fun r => F r.1 r.2)
theorem bdC_some {β : Type} {o : Option (ly × mm)} {F : ly → mm → Option β} {r : β} (h : bdC o F = some r) : ∃ Γ σ, o = some (Γ, σ) ∧ F Γ σ = some r := by
  obtain ⟨⟨v, σ⟩, h1, h2⟩ := Option.bind_eq_some_iff.mp h
  exact ⟨v, σ, h1, h2⟩
section N2
variable {l : Launch} {G : gg} {y : MethodName} {cc : ByteArray} {nL : Nat} {ret : Option FieldType} {d mc ms : Nat} {Q : Option Value → ly → mm → Prop} {k n pc : Nat} {lv lv' : List (Nat × Value)} {st : List Value} {Γ : ly} {σ : mm} {a : Nat}
theorem WP.lim (hlim : G.1.1 + Γ.1 + 1 ≤ G.1.2.1 + 64) (kk : G.2.1 (Γ.1 + 1) ≤ G.1.2.1 → WP l G y cc nL ret d mc ms Q k n pc lv st Γ σ) : WP l G y cc nL ret d mc ms Q k n pc lv st Γ σ := by
  intro p e s m args below meth c H locs ls A Rp S L
  refine kk ?_ p e s m args below meth c H locs ls A Rp S L
  rw [ad_own A.2.2.2.2.2.2.2.2.2.1 (Nat.le_succ_of_le Rp.2.1)]
  have := Rp.2.1
  omega
theorem r_new' {index ci : Nat} {α : Type} {F : ly → mm → Option α} {r : α} (N : Nat) (hN : c_n ci = N) (hd : decode cc pc = .ok (.new index, 3)) (D : NWd y.cls index ci) (hfr : G.1.2.2 = true) (hlim : G.1.1 + Γ.1 + 1 ≤ G.1.2.1 + 64) (hk : k + 1 ≤ mc) (hs : n + N ≤ ms) (hf : nwC Γ σ (0, ci) F = some r) (kk : ∀ Γ1 σ1, Γ1.1 = Γ.1 + 1 → (∀ e b, tyOK Γ e b → tyOK Γ1 e b) → tyOK Γ1 (0, ci) Γ.1 → F Γ1 σ1 = some r → WP l G y cc nL ret d mc ms Q (k + 1) (n + N) (pc + 3) lv (.ref (G.2.1 Γ.1) :: st) Γ1 σ1) : WP l G y cc nL ret d mc ms Q k n pc lv st Γ σ := by
  subst hN
  exact WP.lim hlim fun hl => r_new hd D hfr hl hk hs hf fun h1 h2 => kk _ _ rfl (fun _ _ => tyOK_grow) h1 h2
theorem r_newa1' {x : Int32} {N : Nat} {α : Type} {F : ly → mm → Option α} {r : α} (hd : decode cc pc = .ok (.newarray .int, 2)) (hw : Cond.arrayClass .int ∈ gw) (hfr : G.1.2.2 = true) (hn : ¬ x < 0) (hN : x.toNatClampNeg = N) (hby : N * componentBytes .int ≤ 536870912) (hlim : G.1.1 + Γ.1 + 1 ≤ G.1.2.1 + 64) (hk : k + 1 ≤ mc) (hs : n + N ≤ ms) (hf : nwC Γ σ (1, N) F = some r) (kk : ∀ Γ1 σ1, Γ1.1 = Γ.1 + 1 → (∀ e b, tyOK Γ e b → tyOK Γ1 e b) → tyOK Γ1 (1, 0) Γ.1 → F Γ1 σ1 = some r → WP l G y cc nL ret d mc ms Q (k + 1) (n + N) (pc + 2) lv (.ref (G.2.1 Γ.1) :: st) Γ1 σ1) : WP l G y cc nL ret d mc ms Q k n pc lv (.int x :: st) Γ σ :=
  WP.lim hlim fun hl => r_newa1 hd hw hfr hn hN hby hl hk hs hf fun h1 h2 => kk _ _ rfl (fun _ _ => tyOK_grow) h1 h2
theorem r_newa2' {x : Int32} {N : Nat} {α : Type} {F : ly → mm → Option α} {r : α} (hd : decode cc pc = .ok (.newarray .byte, 2)) (hw : Cond.arrayClass .byte ∈ gw) (hfr : G.1.2.2 = true) (hn : ¬ x < 0) (hN : x.toNatClampNeg = N) (hby : N * componentBytes .byte ≤ 536870912) (hlim : G.1.1 + Γ.1 + 1 ≤ G.1.2.1 + 64) (hk : k + 1 ≤ mc) (hs : n + N ≤ ms) (hf : nwC Γ σ (2, N) F = some r) (kk : ∀ Γ1 σ1, Γ1.1 = Γ.1 + 1 → (∀ e b, tyOK Γ e b → tyOK Γ1 e b) → tyOK Γ1 (2, 0) Γ.1 → F Γ1 σ1 = some r → WP l G y cc nL ret d mc ms Q (k + 1) (n + N) (pc + 2) lv (.ref (G.2.1 Γ.1) :: st) Γ1 σ1) : WP l G y cc nL ret d mc ms Q k n pc lv (.int x :: st) Γ σ :=
  WP.lim hlim fun hl => r_newa2 hd hw hfr hn hN hby hl hk hs hf fun h1 h2 => kk _ _ rfl (fun _ _ => tyOK_grow) h1 h2
theorem r_newa3' {x : Int32} {N : Nat} {α : Type} {F : ly → mm → Option α} {r : α} (hd : decode cc pc = .ok (.newarray .boolean, 2)) (hw : Cond.arrayClass .boolean ∈ gw) (hfr : G.1.2.2 = true) (hn : ¬ x < 0) (hN : x.toNatClampNeg = N) (hby : N * componentBytes .boolean ≤ 536870912) (hlim : G.1.1 + Γ.1 + 1 ≤ G.1.2.1 + 64) (hk : k + 1 ≤ mc) (hs : n + N ≤ ms) (hf : nwC Γ σ (3, N) F = some r) (kk : ∀ Γ1 σ1, Γ1.1 = Γ.1 + 1 → (∀ e b, tyOK Γ e b → tyOK Γ1 e b) → tyOK Γ1 (3, 0) Γ.1 → F Γ1 σ1 = some r → WP l G y cc nL ret d mc ms Q (k + 1) (n + N) (pc + 2) lv (.ref (G.2.1 Γ.1) :: st) Γ1 σ1) : WP l G y cc nL ret d mc ms Q k n pc lv (.int x :: st) Γ σ :=
  WP.lim hlim fun hl => r_newa3 hd hw hfr hn hN hby hl hk hs hf fun h1 h2 => kk _ _ rfl (fun _ _ => tyOK_grow) h1 h2
theorem r_newa4' {x : Int32} {N : Nat} {α : Type} {F : ly → mm → Option α} {r : α} (hd : decode cc pc = .ok (.newarray .long, 2)) (hw : Cond.arrayClass .long ∈ gw) (hfr : G.1.2.2 = true) (hn : ¬ x < 0) (hN : x.toNatClampNeg = N) (hby : N * componentBytes .long ≤ 536870912) (hlim : G.1.1 + Γ.1 + 1 ≤ G.1.2.1 + 64) (hk : k + 1 ≤ mc) (hs : n + N ≤ ms) (hf : nwC Γ σ (4, N) F = some r) (kk : ∀ Γ1 σ1, Γ1.1 = Γ.1 + 1 → (∀ e b, tyOK Γ e b → tyOK Γ1 e b) → tyOK Γ1 (4, 0) Γ.1 → F Γ1 σ1 = some r → WP l G y cc nL ret d mc ms Q (k + 1) (n + N) (pc + 2) lv (.ref (G.2.1 Γ.1) :: st) Γ1 σ1) : WP l G y cc nL ret d mc ms Q k n pc lv (.int x :: st) Γ σ :=
  WP.lim hlim fun hl => r_newa4 hd hw hfr hn hN hby hl hk hs hf fun h1 h2 => kk _ _ rfl (fun _ _ => tyOK_grow) h1 h2
theorem r_newq5' {x : Int32} {index N : Nat} {α : Type} {F : ly → mm → Option α} {r : α} (hd : decode cc pc = .ok (.anewarray index, 3)) (hw : Cond.classLink y.cls index "GlassVows$Life" ∈ gw) (hfr : G.1.2.2 = true) (hn : ¬ x < 0) (hN : x.toNatClampNeg = N) (hby : N * 4 ≤ 536870912) (hlim : G.1.1 + Γ.1 + 1 ≤ G.1.2.1 + 64) (hk : k + 1 ≤ mc) (hs : n + N ≤ ms) (hf : nwC Γ σ (5, N) F = some r) (kk : ∀ Γ1 σ1, Γ1.1 = Γ.1 + 1 → (∀ e b, tyOK Γ e b → tyOK Γ1 e b) → tyOK Γ1 (5, 0) Γ.1 → F Γ1 σ1 = some r → WP l G y cc nL ret d mc ms Q (k + 1) (n + N) (pc + 3) lv (.ref (G.2.1 Γ.1) :: st) Γ1 σ1) : WP l G y cc nL ret d mc ms Q k n pc lv (.int x :: st) Γ σ :=
  WP.lim hlim fun hl => r_newq5 hd hw hfr hn hN hby hl hk hs hf fun h1 h2 => kk _ _ rfl (fun _ _ => tyOK_grow) h1 h2
theorem r_newq6' {x : Int32} {index N : Nat} {α : Type} {F : ly → mm → Option α} {r : α} (hd : decode cc pc = .ok (.anewarray index, 3)) (hw : Cond.classLink y.cls index "GlassVows$Parish" ∈ gw) (hfr : G.1.2.2 = true) (hn : ¬ x < 0) (hN : x.toNatClampNeg = N) (hby : N * 4 ≤ 536870912) (hlim : G.1.1 + Γ.1 + 1 ≤ G.1.2.1 + 64) (hk : k + 1 ≤ mc) (hs : n + N ≤ ms) (hf : nwC Γ σ (6, N) F = some r) (kk : ∀ Γ1 σ1, Γ1.1 = Γ.1 + 1 → (∀ e b, tyOK Γ e b → tyOK Γ1 e b) → tyOK Γ1 (6, 0) Γ.1 → F Γ1 σ1 = some r → WP l G y cc nL ret d mc ms Q (k + 1) (n + N) (pc + 3) lv (.ref (G.2.1 Γ.1) :: st) Γ1 σ1) : WP l G y cc nL ret d mc ms Q k n pc lv (.int x :: st) Γ σ :=
  WP.lim hlim fun hl => r_newq6 hd hw hfr hn hN hby hl hk hs hf fun h1 h2 => kk _ _ rfl (fun _ _ => tyOK_grow) h1 h2
theorem r_newq7' {x : Int32} {index N : Nat} {α : Type} {F : ly → mm → Option α} {r : α} (hd : decode cc pc = .ok (.anewarray index, 3)) (hw : Cond.classLink y.cls index "GlassVows$Sentence" ∈ gw) (hfr : G.1.2.2 = true) (hn : ¬ x < 0) (hN : x.toNatClampNeg = N) (hby : N * 4 ≤ 536870912) (hlim : G.1.1 + Γ.1 + 1 ≤ G.1.2.1 + 64) (hk : k + 1 ≤ mc) (hs : n + N ≤ ms) (hf : nwC Γ σ (7, N) F = some r) (kk : ∀ Γ1 σ1, Γ1.1 = Γ.1 + 1 → (∀ e b, tyOK Γ e b → tyOK Γ1 e b) → tyOK Γ1 (7, 0) Γ.1 → F Γ1 σ1 = some r → WP l G y cc nL ret d mc ms Q (k + 1) (n + N) (pc + 3) lv (.ref (G.2.1 Γ.1) :: st) Γ1 σ1) : WP l G y cc nL ret d mc ms Q k n pc lv (.int x :: st) Γ σ :=
  WP.lim hlim fun hl => r_newq7 hd hw hfr hn hN hby hl hk hs hf fun h1 h2 => kk _ _ rfl (fun _ _ => tyOK_grow) h1 h2
theorem r_newq8' {x : Int32} {index N : Nat} {α : Type} {F : ly → mm → Option α} {r : α} (hd : decode cc pc = .ok (.anewarray index, 3)) (hw : Cond.classLink y.cls index "GlassVows$Word" ∈ gw) (hfr : G.1.2.2 = true) (hn : ¬ x < 0) (hN : x.toNatClampNeg = N) (hby : N * 4 ≤ 536870912) (hlim : G.1.1 + Γ.1 + 1 ≤ G.1.2.1 + 64) (hk : k + 1 ≤ mc) (hs : n + N ≤ ms) (hf : nwC Γ σ (8, N) F = some r) (kk : ∀ Γ1 σ1, Γ1.1 = Γ.1 + 1 → (∀ e b, tyOK Γ e b → tyOK Γ1 e b) → tyOK Γ1 (8, 0) Γ.1 → F Γ1 σ1 = some r → WP l G y cc nL ret d mc ms Q (k + 1) (n + N) (pc + 3) lv (.ref (G.2.1 Γ.1) :: st) Γ1 σ1) : WP l G y cc nL ret d mc ms Q k n pc lv (.int x :: st) Γ σ :=
  WP.lim hlim fun hl => r_newq8 hd hw hfr hn hN hby hl hk hs hf fun h1 h2 => kk _ _ rfl (fun _ _ => tyOK_grow) h1 h2
theorem q_cVVg {index ci : Nat} {y2 : MethodName} {cc2 : ByteArray} {nL2 np : Nat} {ret2 : Option FieldType} {σ2 : mm} {r9 : vw_C} (hd : decode cc pc = .ok (.invokevirtual index, 3)) (C : CVd y.cls index y2 cc2 nL2 ret2 np) (hc : vwCl[ci]? = some r9) (hcn : r9.1 = y2.cls) (ht : tyOK Γ (0, ci) a) (hn : 0 = np) (hst : (st.map fun v => v.category).sum ≤ 8) (hdd : 1 ≤ d) (hk : k ≤ mc) (hs : n ≤ ms)
    (hM : CT l G y2 cc2 nL2 ret2 (d - 1) 0 0 [.ref (G.2.1 a)] Γ σ (PP none Γ σ2)) (kk : WP l G y cc nL ret d mc ms Q k n (pc + 3) lv st Γ σ2) : WP l G y cc nL ret d mc ms Q k n pc lv (.ref (G.2.1 a) :: st) Γ σ := by
  refine r_callV (As := []) (As' := []) hd C hc hcn ht hn rfl hst (by omega) hk hs hM ?_
  rintro v Γ' σ' ⟨rfl, rfl, rfl⟩
  exact kk
theorem q_cI {index : Nat} {y2 : MethodName} {cc2 : ByteArray} {nL2 np : Nat} (mc2 ms2 : Nat) (As : List Value) {As' : List Value} {g : ly} {t : mm} {NC : Nat} (hd : decode cc pc = .ok (.invokespecial index, 3)) (C : CId y.cls index y2 cc2 nL2 np) (hn : As.length = np) (has : As.reverse ++ .ref (G.2.1 a) :: st = As') (hst : (st.map fun v => v.category).sum ≤ 8) (hdd : 1 ≤ d) (hm1 : k + mc2 ≤ mc) (hm2 : n + ms2 ≤ ms)
    (hM : CT l G y2 cc2 nL2 none (d - 1) mc2 ms2 (.ref (G.2.1 a) :: As) Γ σ (fun v Γ' σ' => v = none ∧ Γ' = (g, t).1 ∧ σ' = (g, t).2 ∧ Γ'.1 = Γ.1 + NC ∧ ∀ e b, tyOK Γ e b → tyOK Γ' e b)) (kk : g.1 = Γ.1 + NC → (∀ e b, tyOK Γ e b → tyOK g e b) → WP l G y cc nL ret d mc ms Q (k + mc2) (n + ms2) (pc + 3) lv st g t) : WP l G y cc nL ret d mc ms Q k n pc lv As' Γ σ := by
  refine r_callI As hd C hn has hst (by omega) hm1 hm2 hM ?_
  rintro v Γ' σ' ⟨e1, e2, e3, e4, e5⟩
  have e2 : Γ' = g := e2
  have e3 : σ' = t := e3
  subst e1
  rw [e2] at e4 e5
  rw [e2, e3]
  exact kk e4 e5
theorem q_cIN {index : Nat} {y2 : MethodName} {host : String} {cc2 : ByteArray} {nL2 np : Nat} (mc2 ms2 : Nat) (As : List Value) {As' : List Value} {g : ly} {t : mm} {NC : Nat} (hd : decode cc pc = .ok (.invokespecial index, 3)) (C : CINd y.cls index y2 cc2 nL2 np host) (hn : As.length = np) (has : As.reverse ++ .ref (G.2.1 a) :: st = As') (hst : (st.map fun v => v.category).sum ≤ 8) (hdd : 1 ≤ d) (hm1 : k + mc2 ≤ mc) (hm2 : n + ms2 ≤ ms)
    (hM : CT l G y2 cc2 nL2 none (d - 1) mc2 ms2 (.ref (G.2.1 a) :: As) Γ σ (fun v Γ' σ' => v = none ∧ Γ' = (g, t).1 ∧ σ' = (g, t).2 ∧ Γ'.1 = Γ.1 + NC ∧ ∀ e b, tyOK Γ e b → tyOK Γ' e b)) (kk : g.1 = Γ.1 + NC → (∀ e b, tyOK Γ e b → tyOK g e b) → WP l G y cc nL ret d mc ms Q (k + mc2) (n + ms2) (pc + 3) lv st g t) : WP l G y cc nL ret d mc ms Q k n pc lv As' Γ σ := by
  refine r_callIN As hd C hn has hst (by omega) hm1 hm2 hM ?_
  rintro v Γ' σ' ⟨e1, e2, e3, e4, e5⟩
  have e2 : Γ' = g := e2
  have e3 : σ' = t := e3
  subst e1
  rw [e2] at e4 e5
  rw [e2, e3]
  exact kk e4 e5
theorem r_geT {x y' : Int32} {off : Int} (tgt : Nat) (hd : decode cc pc = .ok (.if_icmp .ge off, 3)) (ht : (pc : Int) + off = (tgt : Int)) (hc : y' ≤ x) (kk : WP l G y cc nL ret d mc ms Q k n tgt lv st Γ σ) : WP l G y cc nL ret d mc ms Q k n pc lv (.int y' :: .int x :: st) Γ σ :=
  fun p e s m args below meth c H locs ls A Rp S L => lv_icmp_ge A.1 A.2.1 hd ht (fun _ => kk p e s m args below meth c H locs ls A Rp S L) (fun q => absurd hc q)
theorem r_geF {x y' : Int32} {off : Int} (hd : decode cc pc = .ok (.if_icmp .ge off, 3)) (hc : ¬ y' ≤ x) (kk : WP l G y cc nL ret d mc ms Q k n (pc + 3) lv st Γ σ) (tgt : Nat := ((pc : Int) + off).toNat) (ht : (pc : Int) + off = (tgt : Int) := by decide) : WP l G y cc nL ret d mc ms Q k n pc lv (.int y' :: .int x :: st) Γ σ :=
  fun p e s m args below meth c H locs ls A Rp S L => lv_icmp_ge A.1 A.2.1 hd ht (fun q => absurd q hc) (fun _ => kk p e s m args below meth c H locs ls A Rp S L)
theorem r_iincL {z : Nat} {w : Int} {x v w9 : Int32} (q : Nat) (hd : decode cc pc = .ok (.iinc z w, 3)) (hk : lv[q]? = some (z, .int x)) (hv : Int32.ofInt w = v) (hxv : x + v = w9) (hn : z < nL) (hl : (z, Value.int w9) :: lv.filter (fun q => !(q.1 == z) && !(q.1 + 1 == z && q.2.category == 2)) = lv') (kk : WP l G y cc nL ret d mc ms Q k n (pc + 3) lv' st Γ σ) : WP l G y cc nL ret d mc ms Q k n pc lv st Γ σ :=
  r_iinc q hd hk hv hn (by rw [hxv]; exact hl) kk
end N2
