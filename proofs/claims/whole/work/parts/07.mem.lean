/-! Rules of the heap, of returns and of calls. -/
theorem CT.mono {l : Launch} {G : gg} {y : MethodName} {cc : ByteArray} {nL : Nat} {ret : Option FieldType} {d mc ms : Nat} {As : List Value} {Γ : ly} {σ : mm} {Q Q' : Option Value → ly → mm → Prop} (h : CT l G y cc nL ret d mc ms As Γ σ Q) (hq : ∀ v Γ' σ', Q v Γ' σ' → Q' v Γ' σ') : CT l G y cc nL ret d mc ms As Γ σ Q' := by
  intro p e h1 h2 h3 s m args below h4 h5 h6 h7
  obtain ⟨n, o, a1, a2, a3, ⟨⟨⟨v, Γ', σ', b1, b2, b3⟩, b4⟩, b5⟩⟩ := h p e h1 h2 h3 s m args below h4 h5 h6 h7
  exact ⟨n, o, a1, a2, a3, ⟨⟨⟨v, Γ', σ', b1, hq _ _ _ b2, b3⟩, b4⟩, b5⟩⟩
theorem one_P {D : va_G} {cl : List vw_C} {q : Nat × va_E} {H : Heap} (h : va_at D cl q H) : va_P D cl [q] H := by
  intro k x hk
  cases k with
  | zero => cases hk; exact h
  | succ k => simp at hk
theorem Rep.store {G : gg} {Γ : ly} {σ σ' : mm} {H H' : Heap} (Rp : Rep G Γ σ H) (hA : ∀ k, G.2.1 (64 + k) = G.1.1 + k) {a : Nat} (ha : 64 ≤ a) (h1 : ∀ k, k ≠ a → σ'.1 k = σ.1 k) (h2 : ∀ k, k ≠ a → σ'.2.1 k = σ.2.1 k) (h3 : ∀ k, k ≠ a → σ'.2.2 k = σ.2.2 k) (z : H'.size = H.size) (oq : ∀ q, q ≠ G.2.1 a → H'[q]? = H[q]?) (hw : wtp Γ σ') (hat : ∀ e, h_cell G (Γ.2 a) σ' a = some e → va_at G.2.2.1 vwCl (G.2.1 a, e) H') : Rep G Γ σ' H' := by
  refine ⟨⟨fun q => z.trans (Rp.1.1 q), Rp.1.2⟩, Rp.2.1, hw, fun k e hk hk2 he => ?_⟩
  by_cases hka : k = a
  · subst hka
    exact hat e he
  · rw [h_cell_same (h1 k hka) (h2 k hka) (h3 k hka)] at he
    exact (Rp.2.2.2 k e hk hk2 he).kept (oq _ (fun q => hka (ad_inj hA hk ha q)))
theorem Rep.obj {G : gg} {Γ : ly} {σ : mm} {H : Heap} (Rp : Rep G Γ σ H) {ci a : Nat} (ht : tyOK Γ (0, ci) a) : va_at G.2.2.1 vwCl (G.2.1 a, .inr (ci, h_fs G σ ci a)) H := by
  obtain ⟨h1, h2, h3⟩ := ht
  exact Rp.2.2.2 a _ h1 h2 (by rw [h3]; rfl)
section M
variable {l : Launch} {G : gg} {y : MethodName} {cc : ByteArray} {nL : Nat} {ret : Option FieldType} {d mc ms : Nat} {Q : Option Value → ly → mm → Prop} {k n pc : Nat} {lv lv' : List (Nat × Value)} {st : List Value} {Γ : ly} {σ : mm} {a : Nat}
theorem r_get {index ci j t : Nat} {fty : FieldType} {fin : Bool} (hd : decode cc pc = .ok (.getfield index, 3)) (F : FD y.cls index ci j t fty fin) (ht : tyOK Γ (0, ci) a) (kk : WP l G y cc nL ret d mc ms Q k n (pc + 3) lv (h_v G σ t a j :: st) Γ σ) : WP l G y cc nL ret d mc ms Q k n pc lv (.ref (G.2.1 a) :: st) Γ σ := by
  intro p e s m args below meth c H locs ls A Rp S L
  obtain ⟨C, T, N, ty, hc, hN, hin, hty, hnm, hj, hkt, htj, hfin, hlink⟩ := F
  have hts : ∀ w ∈ gw, w.before args s = true := fun w h => A.2.2.2.2.1 w (List.mem_cons_of_mem _ h)
  exact va_get (ci := ci) (C := C) (T := T) (N := N) A.1 A.2.1 hts hin A.2.2.2.1 A.2.2.2.2.2.2.2.2.1 (one_P (Rp.obj ht)) 0 rfl hc j hj (hts _ hlink) (fun _ h => h) (v := h_v G σ t a j) (by rw [h_fs_get (by rw [hN]; exact hj), hkt]) hd (kk p e s m args below meth c H locs ls A Rp S L)
theorem r_getI {index ci j : Nat} {fty : FieldType} {fin : Bool} (hd : decode cc pc = .ok (.getfield index, 3)) (F : FD y.cls index ci j 0 fty fin) (ht : tyOK Γ (0, ci) a) (kk : WP l G y cc nL ret d mc ms Q k n (pc + 3) lv (.int (σ.1 a j) :: st) Γ σ) : WP l G y cc nL ret d mc ms Q k n pc lv (.ref (G.2.1 a) :: st) Γ σ := r_get hd F ht kk
theorem r_getL {index ci j : Nat} {fty : FieldType} {fin : Bool} (hd : decode cc pc = .ok (.getfield index, 3)) (F : FD y.cls index ci j 1 fty fin) (ht : tyOK Γ (0, ci) a) (kk : WP l G y cc nL ret d mc ms Q k n (pc + 3) lv (.long (σ.2.1 a j) :: st) Γ σ) : WP l G y cc nL ret d mc ms Q k n pc lv (.ref (G.2.1 a) :: st) Γ σ := r_get hd F ht kk
theorem r_getR {index ci j : Nat} {fty : FieldType} {fin : Bool} {α : Type} {f : Nat → Option α} {r : α} (hd : decode cc pc = .ok (.getfield index, 3)) (F : FD y.cls index ci j 2 fty fin) (ht : tyOK Γ (0, ci) a) (hf : (σ.2.2 a j).bind f = some r) (kk : ∀ b, tyOK Γ (c_r ci j) b → f b = some r → WP l G y cc nL ret d mc ms Q k n (pc + 3) lv (.ref (G.2.1 b) :: st) Γ σ) : WP l G y cc nL ret d mc ms Q k n pc lv (.ref (G.2.1 a) :: st) Γ σ := by
  refine r_get hd F ht ?_
  intro p e s m args below meth c H locs ls A Rp S L
  obtain ⟨b, hb, hfb⟩ := Option.bind_eq_some_iff.mp hf
  obtain ⟨C, T, N, ty, hc, hN, hin, hty, hnm, hj, hkt, -⟩ := F
  obtain ⟨h1, h2, h3⟩ := id ht
  have hty : tyOK Γ (c_r ci j) b := by
    have h := (Rp.2.2.1 a h1 h2).1 (by rw [h3]) j (by rw [h3, hN]; exact hj) (by rw [h3]; exact hkt) b hb
    rw [h3] at h
    exact h
  have := kk b hty hfb p e s m args below meth c H locs ls A Rp S L
  unfold h_v
  rw [hb]
  exact this
theorem r_put {index ci j t : Nat} {fty : FieldType} {v : Value} {σ' : mm} (hd : decode cc pc = .ok (.putfield index, 3)) (F : FD y.cls index ci j t fty false) (ht : tyOK Γ (0, ci) a) (hn : narrow fty v = v) (hfit : fits fty v = true) (h1 : ∀ k, k ≠ a → σ'.1 k = σ.1 k) (h2 : ∀ k, k ≠ a → σ'.2.1 k = σ.2.1 k) (h3 : ∀ k, k ≠ a → σ'.2.2 k = σ.2.2 k) (hw : wtp Γ σ → wtp Γ σ') (hv : ∀ i, i < c_n ci → h_v G σ' (c_t ci i) a i = if i = j then v else h_v G σ (c_t ci i) a i) (kk : WP l G y cc nL ret d mc ms Q k n (pc + 3) lv st Γ σ') : WP l G y cc nL ret d mc ms Q k n pc lv (v :: .ref (G.2.1 a) :: st) Γ σ := by
  intro p e s m args below meth c H locs ls A Rp S L
  obtain ⟨C, T, N, ty, hc, hN, hin, hty, hnm, hj, hkt, htj, hfin, hlink⟩ := F
  have hts : ∀ w ∈ gw, w.before args s = true := fun w h => A.2.2.2.2.1 w (List.mem_cons_of_mem _ h)
  have hKK := A.2.2.2.2.2.2.2.2
  have hK := hKK.1
  have hap := va_apart (own := y.cls) hts hin ty hty hnm hK hc
  obtain ⟨r, hr1, cell, q1, q2, q3, q4⟩ := Rp.obj ht
  have hr : r = (C, T, N) := Option.some.inj (hr1.symm.trans hc)
  subst hr
  obtain ⟨hS, hfc, kC, hkC, hkind⟩ := hK.1 ci _ hc
  obtain ⟨cf, kf, fi, f, hi, hsl⟩ := hS j hj
  have hlay := hts _ (hin _ (u_in_lay hj))
  unfold u_lay at hlay
  rw [if_neg (by rw [hfin]; decide)] at hlay
  have hst := (u_facts hfc hkC (u_lays hts hin hj) hi).1
  have h6 := u_store hfc hkC hkind hlay hi (hty j hj) (by rw [htj]; exact hn) (by rw [htj]; exact hfit)
  refine W.putK A.1 A.2.1 (f := f) ⟨A.2.2.2.1, hts _ hlink, ⟨_, _, _, hi⟩, hst⟩ (by rw [q2]; exact h6) q1 q3 (by rw [hsl]; exact k2_hasslot (q4 j hj)) rfl rfl hd fun H' e1 e2 e3 => ?_
  rw [hsl] at e1 ⊢
  obtain ⟨g1, g2, g3⟩ := id ht
  refine kk p e s m args below meth c H' _ ls A (Rp.store hKK.2.1 g1 h1 h2 h3 e2 e3 (hw Rp.2.2.1) ?_) (S.put e2 e3 (Rp.own hKK.2.1 g1 g2 (by rw [g3]; exact (by decide : (0 : Nat) ≠ 99)))) L
  intro e he
  rw [g3] at he
  cases he
  refine ⟨_, hc, t_OB.to (V := updV (vp_V (h_fs G σ ci a)) j v) ⟨_, e1, q2, q3, t_set q4 hap hj v⟩ (fun i hi => ?_)⟩
  rw [h_fs_V (by rw [hN]; exact hi), hv i (by rw [hN]; exact hi)]
  unfold updV
  by_cases hij : i = j
  · simp [hij]
  · simp [hij, h_fs_V (G := G) (σ := σ) (k := a) (show i < c_n ci by rw [hN]; exact hi)]
theorem r_putI {index ci j : Nat} {x : Int32} (hd : decode cc pc = .ok (.putfield index, 3)) (F : FD y.cls index ci j 0 .int false) (ht : tyOK Γ (0, ci) a) (kk : WP l G y cc nL ret d mc ms Q k n (pc + 3) lv st Γ (up2 σ.1 a j x, σ.2.1, σ.2.2)) : WP l G y cc nL ret d mc ms Q k n pc lv (.int x :: .ref (G.2.1 a) :: st) Γ σ := by
  have hkt : c_t ci j = 0 := by obtain ⟨C, T, N, ty, hc, hN, hin, hty, hnm, hj, hkt, -⟩ := F; exact hkt
  refine r_put (σ' := (up2 σ.1 a j x, σ.2.1, σ.2.2)) hd F ht rfl rfl (fun k hk => up2_ne hk) (fun _ _ => rfl) (fun _ _ => rfl) (fun h => h) (fun i hi => ?_) kk
  by_cases hij : i = j
  · subst hij
    rw [if_pos rfl, hkt]
    simp [h_v, up2]
  · rw [if_neg hij]
    unfold h_v
    simp [up2_eq, hij]
theorem r_putZ {index ci j : Nat} {x : Int32} {α : Type} {f : Option α} {r : α} (hd : decode cc pc = .ok (.putfield index, 3)) (F : FD y.cls index ci j 0 .boolean false) (ht : tyOK Γ (0, ci) a) (hf : (if isb x = true then f else none) = some r) (kk : f = some r → WP l G y cc nL ret d mc ms Q k n (pc + 3) lv st Γ (up2 σ.1 a j x, σ.2.1, σ.2.2)) : WP l G y cc nL ret d mc ms Q k n pc lv (.int x :: .ref (G.2.1 a) :: st) Γ σ := by
  have hkt : c_t ci j = 0 := by obtain ⟨C, T, N, ty, hc, hN, hin, hty, hnm, hj, hkt, -⟩ := F; exact hkt
  have hb : isb x = true := by
    by_cases h : isb x = true
    · exact h
    · rw [if_neg h] at hf; cases hf
  rw [if_pos hb] at hf
  refine r_put (σ' := (up2 σ.1 a j x, σ.2.1, σ.2.2)) hd F ht (isb_nar hb) (isb_fit hb) (fun k hk => up2_ne hk) (fun _ _ => rfl) (fun _ _ => rfl) (fun h => h) (fun i hi => ?_) (kk hf)
  by_cases hij : i = j
  · subst hij
    rw [if_pos rfl, hkt]
    simp [h_v, up2]
  · rw [if_neg hij]
    unfold h_v
    simp [up2_eq, hij]
theorem r_putL {index ci j : Nat} {x : Int64} (hd : decode cc pc = .ok (.putfield index, 3)) (F : FD y.cls index ci j 1 .long false) (ht : tyOK Γ (0, ci) a) (kk : WP l G y cc nL ret d mc ms Q k n (pc + 3) lv st Γ (σ.1, up2 σ.2.1 a j x, σ.2.2)) : WP l G y cc nL ret d mc ms Q k n pc lv (.long x :: .ref (G.2.1 a) :: st) Γ σ := by
  have hkt : c_t ci j = 1 := by obtain ⟨C, T, N, ty, hc, hN, hin, hty, hnm, hj, hkt, -⟩ := F; exact hkt
  refine r_put (σ' := (σ.1, up2 σ.2.1 a j x, σ.2.2)) hd F ht rfl rfl (fun _ _ => rfl) (fun k hk => up2_ne hk) (fun _ _ => rfl) (fun h => h) (fun i hi => ?_) kk
  by_cases hij : i = j
  · subst hij
    rw [if_pos rfl, hkt]
    simp [h_v, up2]
  · rw [if_neg hij]
    unfold h_v
    simp [up2_eq, hij]
theorem inb_if {i : Int32} {n : Nat} {α : Type} {f : Option α} {r : α} (hf : (if inb i n = true then f else none) = some r) : vp_in i n ∧ f = some r := by
  by_cases h : inb i n = true
  · rw [if_pos h] at hf; exact ⟨inb_in h, hf⟩
  · rw [if_neg h] at hf; cases hf
theorem r_iald {i : Int32} {α : Type} {f : Option α} {r : α} (hd : decode cc pc = .ok (.iaload, 1)) (ht : tyOK Γ (1, 0) a) (hf : (if inb i (Γ.2 a).2 = true then f else none) = some r) (kk : f = some r → WP l G y cc nL ret d mc ms Q k n (pc + 1) lv (.int (σ.1 a i.toNatClampNeg) :: st) Γ σ) : WP l G y cc nL ret d mc ms Q k n pc lv (.int i :: .ref (G.2.1 a) :: st) Γ σ := by
  intro p e s m args below meth c H locs ls A Rp S L
  obtain ⟨h1, h2, h3⟩ := ht
  obtain ⟨hin, hf⟩ := inb_if hf
  have hat := Rp.2.2.2 a (.inl (G.2.2.2.1 1, (Γ.2 a).2, .inl (σ.1 a))) h1 h2 (by unfold h_cell; rw [h3] <;> rfl)
  exact va_iald A.1 A.2.1 A.2.2.2.2.2.2.2.2.1 (one_P hat) 0 1 rfl rfl hin hd (kk hf p e s m args below meth c H locs ls A Rp S L)
theorem r_bald {i : Int32} {α : Type} {f : Option α} {r : α} (hd : decode cc pc = .ok (.baload, 1)) (ht : tyOK Γ (2, 0) a) (hf : (if inb i (Γ.2 a).2 = true then f else none) = some r) (kk : f = some r → WP l G y cc nL ret d mc ms Q k n (pc + 1) lv (.int (σ.1 a i.toNatClampNeg) :: st) Γ σ) : WP l G y cc nL ret d mc ms Q k n pc lv (.int i :: .ref (G.2.1 a) :: st) Γ σ := by
  intro p e s m args below meth c H locs ls A Rp S L
  obtain ⟨h1, h2, h3⟩ := ht
  obtain ⟨hin, hf⟩ := inb_if hf
  have hat := Rp.2.2.2 a (.inl (G.2.2.2.1 2, (Γ.2 a).2, .inl (σ.1 a))) h1 h2 (by unfold h_cell; rw [h3] <;> rfl)
  exact va_bald A.1 A.2.1 A.2.2.2.2.2.2.2.2.1 (one_P hat) 0 2 rfl rfl hin hd (kk hf p e s m args below meth c H locs ls A Rp S L)
theorem r_zald {i : Int32} {α : Type} {f : Option α} {r : α} (hd : decode cc pc = .ok (.baload, 1)) (ht : tyOK Γ (3, 0) a) (hf : (if inb i (Γ.2 a).2 = true then f else none) = some r) (kk : f = some r → WP l G y cc nL ret d mc ms Q k n (pc + 1) lv (.int (σ.1 a i.toNatClampNeg) :: st) Γ σ) : WP l G y cc nL ret d mc ms Q k n pc lv (.int i :: .ref (G.2.1 a) :: st) Γ σ := by
  intro p e s m args below meth c H locs ls A Rp S L
  obtain ⟨h1, h2, h3⟩ := ht
  obtain ⟨hin, hf⟩ := inb_if hf
  have hat := Rp.2.2.2 a (.inl (G.2.2.2.1 3, (Γ.2 a).2, .inl (σ.1 a))) h1 h2 (by unfold h_cell; rw [h3] <;> rfl)
  exact va_zald A.1 A.2.1 A.2.2.2.2.2.2.2.2.1 (one_P hat) 0 3 rfl rfl hin hd (kk hf p e s m args below meth c H locs ls A Rp S L)
theorem r_lald {i : Int32} {α : Type} {f : Option α} {r : α} (hd : decode cc pc = .ok (.laload, 1)) (ht : tyOK Γ (4, 0) a) (hf : (if inb i (Γ.2 a).2 = true then f else none) = some r) (kk : f = some r → WP l G y cc nL ret d mc ms Q k n (pc + 1) lv (.long (σ.2.1 a i.toNatClampNeg) :: st) Γ σ) : WP l G y cc nL ret d mc ms Q k n pc lv (.int i :: .ref (G.2.1 a) :: st) Γ σ := by
  intro p e s m args below meth c H locs ls A Rp S L
  obtain ⟨h1, h2, h3⟩ := ht
  obtain ⟨hin, hf⟩ := inb_if hf
  have hat := Rp.2.2.2 a (.inl (G.2.2.2.1 4, (Γ.2 a).2, .inr (.inl (σ.2.1 a)))) h1 h2 (by unfold h_cell; rw [h3] <;> rfl)
  exact va_lald A.1 A.2.1 A.2.2.2.2.2.2.2.2.1 (one_P hat) 0 4 rfl rfl hin hd (kk hf p e s m args below meth c H locs ls A Rp S L)
theorem r_iast {i : Int32} {x : Int32} {α : Type} {f : Option α} {r : α} (hd : decode cc pc = .ok (.iastore, 1)) (ht : tyOK Γ (1, 0) a) (hf : (if inb i (Γ.2 a).2 = true then f else none) = some r) (kk : f = some r → WP l G y cc nL ret d mc ms Q k n (pc + 1) lv st Γ (up2 σ.1 a i.toNatClampNeg x, σ.2.1, σ.2.2)) : WP l G y cc nL ret d mc ms Q k n pc lv (.int x :: .int i :: .ref (G.2.1 a) :: st) Γ σ := by
  intro p e s m args below meth c H locs ls A Rp S L
  obtain ⟨h1, h2, h3⟩ := ht
  obtain ⟨hin, hf⟩ := inb_if hf
  have hKK := A.2.2.2.2.2.2.2.2
  have hat := Rp.2.2.2 a (.inl (G.2.2.2.1 1, (Γ.2 a).2, .inl (σ.1 a))) h1 h2 (by unfold h_cell; rw [h3] <;> rfl)
  refine W.iast A.1 A.2.1 hat ((hKK.1.2 1 _ rfl).1 (Γ.2 a).2 (fun j => .int (σ.1 a j))) (fun q => by cases q) (by show ¬ (i < 0 ∨ (arrV _ _ _).slots.size ≤ _); rw [arrV_size]; exact hin) rfl rfl hd fun H1 e1 z oq => ?_
  refine kk hf p e s m args below meth c H1 _ ls A (Rp.store (σ' := (up2 σ.1 a i.toNatClampNeg x, σ.2.1, σ.2.2)) hKK.2.1 h1 (fun k hk => up2_ne hk) (fun _ _ => rfl) (fun _ _ => rfl) z oq Rp.2.2.1 ?_) (S.put z oq (Rp.own hKK.2.1 h1 h2 (by rw [h3]; decide))) L
  intro e he
  have he2 : h_cell G (Γ.2 a) (up2 σ.1 a i.toNatClampNeg x, σ.2.1, σ.2.2) a = some (.inl (G.2.2.2.1 1, (Γ.2 a).2, .inl (up2 σ.1 a i.toNatClampNeg x a))) := by unfold h_cell; rw [h3] <;> rfl
  rw [he2] at he
  cases he
  show H1[G.2.1 a]? = some (vp_cell _ _)
  rw [e1]
  rw [vp_cell_i, vp_cell_i, arrV_store]
  congr 2
  funext q
  by_cases hq : q = i.toNatClampNeg
  · subst hq
    simp [updV, up2]
    try rfl
  · simp [updV, up2, hq]
theorem r_bast {i : Int32} {x : Int32} {α : Type} {f : Option α} {r : α} (hd : decode cc pc = .ok (.bastore, 1)) (ht : tyOK Γ (2, 0) a) (hf : (if inb i (Γ.2 a).2 = true then f else none) = some r) (kk : f = some r → WP l G y cc nL ret d mc ms Q k n (pc + 1) lv st Γ (up2 σ.1 a i.toNatClampNeg (x.toInt8.toInt32), σ.2.1, σ.2.2)) : WP l G y cc nL ret d mc ms Q k n pc lv (.int x :: .int i :: .ref (G.2.1 a) :: st) Γ σ := by
  intro p e s m args below meth c H locs ls A Rp S L
  obtain ⟨h1, h2, h3⟩ := ht
  obtain ⟨hin, hf⟩ := inb_if hf
  have hKK := A.2.2.2.2.2.2.2.2
  have hat := Rp.2.2.2 a (.inl (G.2.2.2.1 2, (Γ.2 a).2, .inl (σ.1 a))) h1 h2 (by unfold h_cell; rw [h3] <;> rfl)
  refine W.bast A.1 A.2.1 hat ((hKK.1.2 2 _ rfl).1 (Γ.2 a).2 (fun j => .int (σ.1 a j))) (fun q => by cases q) (by show ¬ (i < 0 ∨ (arrV _ _ _).slots.size ≤ _); rw [arrV_size]; exact hin) rfl rfl hd fun H1 e1 z oq => ?_
  refine kk hf p e s m args below meth c H1 _ ls A (Rp.store (σ' := (up2 σ.1 a i.toNatClampNeg (x.toInt8.toInt32), σ.2.1, σ.2.2)) hKK.2.1 h1 (fun k hk => up2_ne hk) (fun _ _ => rfl) (fun _ _ => rfl) z oq Rp.2.2.1 ?_) (S.put z oq (Rp.own hKK.2.1 h1 h2 (by rw [h3]; decide))) L
  intro e he
  have he2 : h_cell G (Γ.2 a) (up2 σ.1 a i.toNatClampNeg (x.toInt8.toInt32), σ.2.1, σ.2.2) a = some (.inl (G.2.2.2.1 2, (Γ.2 a).2, .inl (up2 σ.1 a i.toNatClampNeg (x.toInt8.toInt32) a))) := by unfold h_cell; rw [h3] <;> rfl
  rw [he2] at he
  cases he
  show H1[G.2.1 a]? = some (vp_cell _ _)
  rw [e1]
  rw [vp_cell_i, vp_cell_i, arrV_store]
  congr 2
  funext q
  by_cases hq : q = i.toNatClampNeg
  · subst hq
    simp [updV, up2, narrow_byte]
    try rfl
  · simp [updV, up2, hq]
theorem r_zast {i : Int32} {x : Int32} {α : Type} {f : Option α} {r : α} (hd : decode cc pc = .ok (.bastore, 1)) (ht : tyOK Γ (3, 0) a) (hf : (if inb i (Γ.2 a).2 = true then f else none) = some r) (kk : f = some r → WP l G y cc nL ret d mc ms Q k n (pc + 1) lv st Γ (up2 σ.1 a i.toNatClampNeg (x &&& 1), σ.2.1, σ.2.2)) : WP l G y cc nL ret d mc ms Q k n pc lv (.int x :: .int i :: .ref (G.2.1 a) :: st) Γ σ := by
  intro p e s m args below meth c H locs ls A Rp S L
  obtain ⟨h1, h2, h3⟩ := ht
  obtain ⟨hin, hf⟩ := inb_if hf
  have hKK := A.2.2.2.2.2.2.2.2
  have hat := Rp.2.2.2 a (.inl (G.2.2.2.1 3, (Γ.2 a).2, .inl (σ.1 a))) h1 h2 (by unfold h_cell; rw [h3] <;> rfl)
  refine W.zast A.1 A.2.1 hat ((hKK.1.2 3 _ rfl).1 (Γ.2 a).2 (fun j => .int (σ.1 a j))) (fun q => by cases q) (by show ¬ (i < 0 ∨ (arrV _ _ _).slots.size ≤ _); rw [arrV_size]; exact hin) rfl rfl hd fun H1 e1 z oq => ?_
  refine kk hf p e s m args below meth c H1 _ ls A (Rp.store (σ' := (up2 σ.1 a i.toNatClampNeg (x &&& 1), σ.2.1, σ.2.2)) hKK.2.1 h1 (fun k hk => up2_ne hk) (fun _ _ => rfl) (fun _ _ => rfl) z oq Rp.2.2.1 ?_) (S.put z oq (Rp.own hKK.2.1 h1 h2 (by rw [h3]; decide))) L
  intro e he
  have he2 : h_cell G (Γ.2 a) (up2 σ.1 a i.toNatClampNeg (x &&& 1), σ.2.1, σ.2.2) a = some (.inl (G.2.2.2.1 3, (Γ.2 a).2, .inl (up2 σ.1 a i.toNatClampNeg (x &&& 1) a))) := by unfold h_cell; rw [h3] <;> rfl
  rw [he2] at he
  cases he
  show H1[G.2.1 a]? = some (vp_cell _ _)
  rw [e1]
  rw [vp_cell_i, vp_cell_i, arrV_store]
  congr 2
  funext q
  by_cases hq : q = i.toNatClampNeg
  · subst hq
    simp [updV, up2, narrow]
    try rfl
  · simp [updV, up2, hq]
theorem r_last {i : Int32} {x : Int64} {α : Type} {f : Option α} {r : α} (hd : decode cc pc = .ok (.lastore, 1)) (ht : tyOK Γ (4, 0) a) (hf : (if inb i (Γ.2 a).2 = true then f else none) = some r) (kk : f = some r → WP l G y cc nL ret d mc ms Q k n (pc + 1) lv st Γ (σ.1, up2 σ.2.1 a i.toNatClampNeg x, σ.2.2)) : WP l G y cc nL ret d mc ms Q k n pc lv (.long x :: .int i :: .ref (G.2.1 a) :: st) Γ σ := by
  intro p e s m args below meth c H locs ls A Rp S L
  obtain ⟨h1, h2, h3⟩ := ht
  obtain ⟨hin, hf⟩ := inb_if hf
  have hKK := A.2.2.2.2.2.2.2.2
  have hat := Rp.2.2.2 a (.inl (G.2.2.2.1 4, (Γ.2 a).2, .inr (.inl (σ.2.1 a)))) h1 h2 (by unfold h_cell; rw [h3] <;> rfl)
  refine W.last A.1 A.2.1 hat ((hKK.1.2 4 _ rfl).1 (Γ.2 a).2 (fun j => .long (σ.2.1 a j))) (fun q => by cases q) (by show ¬ (i < 0 ∨ (arrV _ _ _).slots.size ≤ _); rw [arrV_size]; exact hin) rfl rfl hd fun H1 e1 z oq => ?_
  refine kk hf p e s m args below meth c H1 _ ls A (Rp.store (σ' := (σ.1, up2 σ.2.1 a i.toNatClampNeg x, σ.2.2)) hKK.2.1 h1 (fun _ _ => rfl) (fun k hk => up2_ne hk) (fun _ _ => rfl) z oq Rp.2.2.1 ?_) (S.put z oq (Rp.own hKK.2.1 h1 h2 (by rw [h3]; decide))) L
  intro e he
  have he2 : h_cell G (Γ.2 a) (σ.1, up2 σ.2.1 a i.toNatClampNeg x, σ.2.2) a = some (.inl (G.2.2.2.1 4, (Γ.2 a).2, .inr (.inl (up2 σ.2.1 a i.toNatClampNeg x a)))) := by unfold h_cell; rw [h3] <;> rfl
  rw [he2] at he
  cases he
  show H1[G.2.1 a]? = some (vp_cell _ _)
  rw [e1]
  rw [vp_cell_l, vp_cell_l, arrV_store]
  congr 2
  funext q
  by_cases hq : q = i.toNatClampNeg
  · subst hq
    simp [updV, up2]
    try rfl
  · simp [updV, up2, hq]
theorem r_alen1 (hd : decode cc pc = .ok (.arraylength, 1)) (ht : tyOK Γ (1, 0) a) (kk : WP l G y cc nL ret d mc ms Q k n (pc + 1) lv (.int (Int32.ofNat (Γ.2 a).2) :: st) Γ σ) : WP l G y cc nL ret d mc ms Q k n pc lv (.ref (G.2.1 a) :: st) Γ σ := by
  intro p e s m args below meth c H locs ls A Rp S L
  obtain ⟨h1, h2, h3⟩ := ht
  have hat := Rp.2.2.2 a (.inl (G.2.2.2.1 1, (Γ.2 a).2, .inl (σ.1 a))) h1 h2 (by unfold h_cell; rw [h3] <;> rfl)
  exact va_alen A.1 A.2.1 A.2.2.2.2.2.2.2.2.1 (one_P hat) 0 1 rfl rfl rfl hd (kk p e s m args below meth c H locs ls A Rp S L)
theorem r_alen4 (hd : decode cc pc = .ok (.arraylength, 1)) (ht : tyOK Γ (4, 0) a) (kk : WP l G y cc nL ret d mc ms Q k n (pc + 1) lv (.int (Int32.ofNat (Γ.2 a).2) :: st) Γ σ) : WP l G y cc nL ret d mc ms Q k n pc lv (.ref (G.2.1 a) :: st) Γ σ := by
  intro p e s m args below meth c H locs ls A Rp S L
  obtain ⟨h1, h2, h3⟩ := ht
  have hat := Rp.2.2.2 a (.inl (G.2.2.2.1 4, (Γ.2 a).2, .inr (.inl (σ.2.1 a)))) h1 h2 (by unfold h_cell; rw [h3] <;> rfl)
  exact va_alen A.1 A.2.1 A.2.2.2.2.2.2.2.2.1 (one_P hat) 0 4 rfl rfl rfl hd (kk p e s m args below meth c H locs ls A Rp S L)
theorem r_ireturn {v : Int32} (hd : decode cc pc = .ok (.ireturn, 1)) (hr : ret = some .int) (hq : Q (some (.int v)) Γ σ) (hk : k ≤ mc) (hn : n ≤ ms) : WP l G y cc nL ret d mc ms Q k n pc lv [.int v] Γ σ := by
  intro p e s m args below meth c H locs ls A Rp S L
  exact W.widen hk hn (W.iret A.1 A.2.1 (A.2.2.2.2.2.1.trans hr) (fun t ht hW => ⟨⟨_, Γ, σ, rfl, hq, by rw [ht]; exact Rp⟩, S.F ht⟩) S.2.2 hd A.2.2.2.2.2.2.1)
theorem r_zreturn {v : Int32} (hd : decode cc pc = .ok (.ireturn, 1)) (hr : ret = some .boolean) (hb : isb v = true) (hq : Q (some (.int v)) Γ σ) (hk : k ≤ mc) (hn : n ≤ ms) : WP l G y cc nL ret d mc ms Q k n pc lv [.int v] Γ σ := by
  intro p e s m args below meth c H locs ls A Rp S L
  exact W.widen hk hn (W.zret A.1 A.2.1 (A.2.2.2.2.2.1.trans hr) (isb_nar hb) (fun t ht hW => ⟨⟨_, Γ, σ, rfl, hq, by rw [ht]; exact Rp⟩, S.F ht⟩) S.2.2 hd A.2.2.2.2.2.2.1)
theorem r_lreturn {v : Int64} (hd : decode cc pc = .ok (.lreturn, 1)) (hr : ret = some .long) (hq : Q (some (.long v)) Γ σ) (hk : k ≤ mc) (hn : n ≤ ms) : WP l G y cc nL ret d mc ms Q k n pc lv [.long v] Γ σ := by
  intro p e s m args below meth c H locs ls A Rp S L
  exact W.widen hk hn (W.lret A.1 A.2.1 (A.2.2.2.2.2.1.trans hr) (fun t ht hW => ⟨⟨_, Γ, σ, rfl, hq, by rw [ht]; exact Rp⟩, S.F ht⟩) S.2.2 hd A.2.2.2.2.2.2.1)
theorem r_return (hd : decode cc pc = .ok (.return_, 1)) (hr : ret = none) (hq : Q none Γ σ) (hk : k ≤ mc) (hn : n ≤ ms) : WP l G y cc nL ret d mc ms Q k n pc lv [] Γ σ := by
  intro p e s m args below meth c H locs ls A Rp S L
  exact W.widen hk hn (W.vret A.1 A.2.1 (A.2.2.2.2.2.1.trans hr) (fun t ht hW => ⟨⟨_, Γ, σ, rfl, hq, by rw [ht]; exact Rp⟩, S.F ht⟩) S.2.2 hd A.2.2.2.2.2.2.1)
theorem gi_gw {w0 : Cond} {w1 : List Cond} (h : ∀ w ∈ w1, w ∈ gw) : GoodIn (w0 :: gw) w1 := fun w hw => ⟨List.mem_cons_of_mem _ (h w hw), good_of_word (gw_good w (h w hw))⟩
theorem pc_blind {As : List Value} : FrameBlind (va_Pc As (fun U => Rep G Γ σ U.heap ∧ KK G U U.heap)) := fun a U g mk q => ⟨q.1, q.2.1, KK.same (u := U) (U := U.calling g mk a) rfl q.2.2⟩
theorem r_run {mc2 ms2 : Nat} {aa : Array Value} {Q2 : Option Value → ly → mm → Prop} {st0 : List Value} {p : Program} {e : Env} {s : State} {m : MethodId} {args : Array Value} {below : List Frame} {meth : Method} {c : Code} {H : Heap} {locs : List Loc} {ls : Array Slot}
    (hr : va_Run p l e (rmOf d mc ms) s m args below meth c H locs k n mc2 ms2 (F0 m pc ls st0) st (QQ G Q2 aa) (g_own G)) (A : AC G y cc nL ret p s m args meth c) (S : va_S (g_own G) s.heap H locs) (L : lv_has ls nL lv)
    (kk : ∀ v Γ' σ', Q2 v Γ' σ' → WP l G y cc nL ret d mc ms Q (k + mc2) (n + ms2) (pc + 3) lv (v.toList ++ st) Γ' σ') : W p l e (rmOf d mc ms) s m args below meth c H locs k n (MQ below (QQ G Q) args s mc ms (g_own G)) (F0 m pc ls st0) := by
  intro T hT X
  obtain ⟨v, st₀, t, T', L2, h0, X', hL, e1, e2, ⟨⟨v2, Γ', σ', hv, hp, hb⟩, hz, hk⟩, st⟩ := hr T hT X
  cases hv
  rw [h0] at hz hk
  obtain ⟨t2, a1, b1⟩ := kk v Γ' σ' hp p e s m args below meth c T'.heap (locs ++ L2) ls A (by rw [e1]; exact hb)
    ⟨Nat.le_trans S.1 (by rw [e1]; exact hz), fun q h1 h2 => by rw [e1, hk q (Nat.lt_of_lt_of_le h1 S.1) h2]; exact S.2.1 q h1 h2, fun q hq => by
      rcases List.mem_append.mp hq with h | h
      · exact S.2.2 q h
      · exact hL q h⟩ L T' rfl X'
  exact ⟨t2, st t2 a1, b1⟩
theorem KK.at {s U : State} {H : Heap} {locs : List Loc} (h : KK G s s.heap) (S : va_S (g_own G) s.heap H locs) (hU : U.heap = H) (hW : s.WarmedH U.vm) : KK G U U.heap := by
  rw [hU]
  exact KK.warm hW (h.kept S.2.1)
theorem r_callV {index ci : Nat} {y2 : MethodName} {cc2 : ByteArray} {nL2 np d2 mc2 ms2 : Nat} {ret2 : Option FieldType} {As As' : List Value} {Q2 : Option Value → ly → mm → Prop} {r9 : vw_C} (hd : decode cc pc = .ok (.invokevirtual index, 3)) (C : CVd y.cls index y2 cc2 nL2 ret2 np) (hc : vwCl[ci]? = some r9) (hcn : r9.1 = y2.cls) (ht : tyOK Γ (0, ci) a) (hn : As.length = np) (has : As.reverse = As') (hst : (st.map fun v => v.category).sum ≤ 8) (hdd : d2 + 1 ≤ d) (hm1 : k + mc2 ≤ mc) (hm2 : n + ms2 ≤ ms)
    (hM : CT l G y2 cc2 nL2 ret2 d2 mc2 ms2 (.ref (G.2.1 a) :: As) Γ σ Q2) (kk : ∀ v Γ' σ', Q2 v Γ' σ' → WP l G y cc nL ret d mc ms Q (k + mc2) (n + ms2) (pc + 3) lv (v.toList ++ st) Γ' σ') : WP l G y cc nL ret d mc ms Q k n pc lv (As' ++ .ref (G.2.1 a) :: st) Γ σ := by
  intro p e s m args below meth c H locs ls A Rp S L
  obtain ⟨c1, c2, c3, c4, c5, c6, c7⟩ := C
  have hKK := A.2.2.2.2.2.2.2.2
  subst has
  refine r_run (va_runV (Ts := Cond.code y cc nL ret :: gw) (C := y2.cls) (As := As) ⟨A.1, A.2.1, A.2.2.1, A.2.2.2.1, A.2.2.2.2.1⟩ hM (cwV np A.2.2.2.2.1 (gi_gw (w1 := wsV y.cls index y2.cls y2 (Cond.code y2 cc2 nL2 ret2 :: gw)) (fun w hw => ?_)) rfl rfl rfl ⟨rfl, c7⟩ ⟨?_, ?_⟩) ⟨pc_blind, ?_, fun U hU hW => ⟨rfl, by rw [hU]; exact Rp, hKK.at S hU hW⟩⟩ rfl hn L.1 rfl (lv_room hst) hd ⟨hm1, hm2⟩) A S L kk
  · simp only [wsV, List.cons_append, List.nil_append, List.mem_cons] at hw
    rcases hw with rfl | rfl | rfl | rfl | rfl | h
    · exact c1
    · exact c2
    · exact c3
    · exact c4
    · exact c5
    · exact h
  · exact hdd
  · show 8 + (nL2 + 11) + (41 * d2 + 32) ≤ 41 * d + 32
    omega
  · have := va_recv hKK.1 (one_P (Rp.obj ht)) (q0 := 0) hc rfl
    rw [hcn] at this
    exact this
theorem r_callS {index : Nat} {y2 : MethodName} {cc2 : ByteArray} {nL2 np d2 mc2 ms2 : Nat} {ret2 : Option FieldType} {As As' : List Value} {Q2 : Option Value → ly → mm → Prop} (hd : decode cc pc = .ok (.invokestatic index, 3)) (C : CSd y.cls index y2 cc2 nL2 ret2 np) (hn : As.length = np) (has : As.reverse = As') (hst : (st.map fun v => v.category).sum ≤ 8) (hdd : d2 + 1 ≤ d) (hm1 : k + mc2 ≤ mc) (hm2 : n + ms2 ≤ ms)
    (hM : CT l G y2 cc2 nL2 ret2 d2 mc2 ms2 As Γ σ Q2) (kk : ∀ v Γ' σ', Q2 v Γ' σ' → WP l G y cc nL ret d mc ms Q (k + mc2) (n + ms2) (pc + 3) lv (v.toList ++ st) Γ' σ') : WP l G y cc nL ret d mc ms Q k n pc lv (As' ++ st) Γ σ := by
  intro p e s m args below meth c H locs ls A Rp S L
  obtain ⟨c1, c2, c3, c4, c5, c6⟩ := C
  have hKK := A.2.2.2.2.2.2.2.2
  subst has
  have hts := A.2.2.2.2.1
  refine r_run (va_runS (Ts := Cond.code y cc nL ret :: gw) (As := As) ⟨A.1, A.2.1, A.2.2.1, A.2.2.2.1, hts⟩ hM ⟨callB_of np hts (gi_gw (fun w hw => ?_)) rfl rfl rfl (hts _ (List.mem_cons_of_mem _ c3)) (hts _ (List.mem_cons_of_mem _ c1)) c6 ⟨?_, ?_⟩, hts _ (List.mem_cons_of_mem _ c2)⟩ ⟨pc_blind, fun U hU hW => ⟨rfl, by rw [hU]; exact Rp, hKK.at S hU hW⟩⟩ rfl hn L.1 rfl (lv_room hst) hd ⟨hm1, hm2⟩) A S L kk
  · rcases List.mem_cons.mp hw with rfl | h
    · exact c4
    · exact h
  · exact hdd
  · show 8 + (nL2 + 11) + (41 * d2 + 32) ≤ 41 * d + 32
    omega
/-- a loop at its head: 'fr' lays a state of the loop into the frame -/
theorem r_loop {α β : Type} {f : α → Option (α ⊕ β)} {hlv : α → List (Nat × Value)} {hsg : α → mm} {head : Nat} {K : β → Prop}
    (hs : ∀ s r, f s = some r → (∀ s', r = .inl s' → WP l G y cc nL ret d mc ms Q k n head (hlv s') [] Γ (hsg s')) → (∀ b, r = .inr b → K b) → WP l G y cc nL ret d mc ms Q k n head (hlv s) [] Γ (hsg s)) :
    ∀ (N : Nat) (s : α) (b : β), loopN f N s = some b → K b → WP l G y cc nL ret d mc ms Q k n head (hlv s) [] Γ (hsg s) := by
  intro N
  induction N with
  | zero => intro s b h; cases h
  | succ N ih =>
    intro s b h hK
    unfold loopN at h
    cases hf : f s with
    | none => rw [hf] at h; cases h
    | some r =>
      rw [hf] at h
      refine hs s r hf ?_ ?_
      · rintro s' rfl
        exact ih s' b h hK
      · rintro b' rfl
        cases h
        exact hK
end M
