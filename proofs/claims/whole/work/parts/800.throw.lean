/-! exceptions: person and glass throw -/
def NSE : String := "java/util/NoSuchElementException"
def XG (G : gg) (Γ : ly) (σ : mm) : String → State → State → Prop := vx_X (S := Unit) (fun _ => True) (fun E _ t => E = NSE ∧ Rep G Γ σ t.heap) (g_own G)
def XQ (G : gg) : Array Value → State → Outcome → State → Prop := va_Qi (S := Unit) (fun _ _ => False) (fun _ _ => True) (g_own G)
def KTl : List Cond := [.declares ⟨"java/lang/RuntimeException", "<init>", "(Ljava/lang/String;)V"⟩, .declares ⟨"java/lang/Exception", "<init>", "(Ljava/lang/String;)V"⟩, .declares ⟨"java/lang/Throwable", "<init>", "(Ljava/lang/String;)V"⟩, .castable NSE NSE]
/-- the throw's words that move in ways of their own -/
def KT (U : State) : Prop := ∀ w ∈ KTl, va_Nw w U
theorem KTl_on : ∀ w ∈ KTl, w.onTables = true := by decide +kernel
theorem KT.same {u U : State} (h : u.vm = U.vm) (hK : KT u) : KT U := fun w hw => va_Nw.same (KTl_on w hw) h (hK w hw)
theorem KT.warm {s U : State} (hW : s.WarmedH U.vm) (hK : KT s) : KT U := by
  intro w hw
  have h0 := hK w hw
  simp only [KTl, List.mem_cons, List.not_mem_nil, or_false] at hw
  rcases hw with rfl | rfl | rfl | rfl
  · exact va_Nw.warmD hW h0
  · exact va_Nw.warmD hW h0
  · exact va_Nw.warmD hW h0
  · exact va_Nw.warmC hW h0
def TX (c : Code) (s : State) : Prop := (∀ x ∈ c.exceptionTable.toList, False) ∧ KT s
/-- a walk that ends in a throw; the picture stays as it is -/
def WX (l : Launch) (G : gg) (y : MethodName) (cc : ByteArray) (nL : Nat) (ret : Option FieldType) (d mc ms : Nat) (Γ : ly) (σ : mm) (k n pc : Nat) (lv : List (Nat × Value)) (st : List Value) : Prop :=
  ∀ (p : Program) (e : Env) (s : State) (m : MethodId) (args : Array Value) (below : List Frame) (meth : Method) (c : Code) (H : Heap) (locs : List Loc) (ls : Array Slot), AC G y cc nL ret p s m args meth c → TX c s → Rep G Γ σ H → va_S (g_own G) s.heap H locs → lv_has ls nL lv →
    W p l e (rmOf d mc ms) s m args below meth c H locs k n (vx_MQ below (XQ G) (XG G Γ σ) args s mc ms (g_own G)) (F0 m pc ls st)
section X
variable {l : Launch} {G : gg} {y : MethodName} {cc : ByteArray} {nL : Nat} {ret : Option FieldType} {d mc ms : Nat} {k n pc : Nat} {lv : List (Nat × Value)} {st : List Value} {Γ : ly} {σ : mm} {a : Nat}
theorem x_aload_n {z : Fin 4} {x : Nat} (q : Nat) (hd : decode cc pc = .ok (.aload_n z, 1)) (hk : lv[q]? = some ((z : Nat), .ref x)) (kk : WX l G y cc nL ret d mc ms Γ σ k n (pc + 1) lv (.ref x :: st)) : WX l G y cc nL ret d mc ms Γ σ k n pc lv st :=
  fun p e s m args below meth c H locs ls A E Rp S L => lv_aload_n A.1 A.2.1 hd rfl (lv_at L q hk) (kk p e s m args below meth c H locs ls A E Rp S L)
theorem x_iload_n {z : Fin 4} {x : Int32} (q : Nat) (hd : decode cc pc = .ok (.iload_n z, 1)) (hk : lv[q]? = some ((z : Nat), .int x)) (kk : WX l G y cc nL ret d mc ms Γ σ k n (pc + 1) lv (.int x :: st)) : WX l G y cc nL ret d mc ms Γ σ k n pc lv st :=
  fun p e s m args below meth c H locs ls A E Rp S L => lv_iload_n A.1 A.2.1 hd rfl (lv_at L q hk) (kk p e s m args below meth c H locs ls A E Rp S L)
theorem x_if_t {x : Int32} {off : Int} (tgt : Nat) (hd : decode cc pc = .ok (.ifCond .ne off, 3)) (ht : (pc : Int) + off = (tgt : Int)) (hx : ¬ x = 0) (kk : WX l G y cc nL ret d mc ms Γ σ k n tgt lv st) : WX l G y cc nL ret d mc ms Γ σ k n pc lv (.int x :: st) :=
  fun p e s m args below meth c H locs ls A E Rp S L => lv_if_ne A.1 A.2.1 hd ht (fun _ => kk p e s m args below meth c H locs ls A E Rp S L) (fun q => absurd q hx)
theorem x_if_f {x : Int32} {off : Int} (tgt : Nat) (hd : decode cc pc = .ok (.ifCond .ne off, 3)) (ht : (pc : Int) + off = (tgt : Int)) (hx : x = 0) (kk : WX l G y cc nL ret d mc ms Γ σ k n (pc + 3) lv st) : WX l G y cc nL ret d mc ms Γ σ k n pc lv (.int x :: st) :=
  fun p e s m args below meth c H locs ls A E Rp S L => lv_if_ne A.1 A.2.1 hd ht (fun q => absurd hx q) (fun _ => kk p e s m args below meth c H locs ls A E Rp S L)
theorem x_tableD {x : Int32} {dflt lo hi : Int} {offs : Array Int} {len : Nat} (tgt : Nat) (hd : decode cc pc = .ok (.tableswitch dflt lo hi offs, len)) (hx : x.toInt < lo ∨ hi < x.toInt) (ht : (pc : Int) + dflt = (tgt : Int)) (kk : WX l G y cc nL ret d mc ms Γ σ k n tgt lv st) : WX l G y cc nL ret d mc ms Γ σ k n pc lv (.int x :: st) :=
  fun p e s m args below meth c H locs ls A E Rp S L => lv_tableOut A.1 A.2.1 hd hx ht (kk p e s m args below meth c H locs ls A E Rp S L)
theorem x_getR {index ci j b : Nat} {fty : FieldType} {fin : Bool} (hd : decode cc pc = .ok (.getfield index, 3)) (F : FD y.cls index ci j 2 fty fin) (ht : tyOK Γ (0, ci) a) (hb : σ.2.2 a j = some b) (kk : tyOK Γ (c_r ci j) b → WX l G y cc nL ret d mc ms Γ σ k n (pc + 3) lv (.ref (G.2.1 b) :: st)) : WX l G y cc nL ret d mc ms Γ σ k n pc lv (.ref (G.2.1 a) :: st) := by
  intro p e s m args below meth c H locs ls A E Rp S L
  obtain ⟨C, T, N, ty, hc, hN, hin, hty, hnm, hj, hkt, htj, hfin, hlink⟩ := F
  have hts : ∀ w ∈ gw, w.before args s = true := fun w h => A.2.2.2.2.1 w (List.mem_cons_of_mem _ h)
  obtain ⟨h1, h2, h3⟩ := id ht
  have hty : tyOK Γ (c_r ci j) b := by
    have h := (Rp.2.2.1 a h1 h2).1 (by rw [h3]) j (by rw [h3, hN]; exact hj) (by rw [h3]; exact hkt) b hb
    rw [h3] at h
    exact h
  have := kk hty p e s m args below meth c H locs ls A E Rp S L
  refine va_get (ci := ci) (C := C) (T := T) (N := N) A.1 A.2.1 hts hin A.2.2.2.1 A.2.2.2.2.2.2.2.2.1 (one_P (Rp.obj ht)) 0 rfl hc j hj (hts _ hlink) (fun _ h => h) (v := h_v G σ 2 a j) (by rw [h_fs_get (by rw [hN]; exact hj), hkt]) hd ?_
  unfold h_v
  rw [hb]
  exact this
theorem x_call {index ci : Nat} {y2 : MethodName} {cc2 : ByteArray} {nL2 np d2 : Nat} {ret2 : Option FieldType} (As : List Value) {As' : List Value} {r : Int32} {r9 : vw_C} (hd : decode cc pc = .ok (.invokevirtual index, 3)) (C : CVd y.cls index y2 cc2 nL2 ret2 np) (hc : vwCl[ci]? = some r9) (hcn : r9.1 = y2.cls) (ht : tyOK Γ (0, ci) a) (hn : As.length = np) (has : As.reverse ++ .ref (G.2.1 a) :: st = As') (hst : (st.map fun v => v.category).sum ≤ 8) (hdd : d2 + 1 ≤ d) (hm1 : k ≤ mc) (hm2 : n ≤ ms)
    (hM : CT l G y2 cc2 nL2 ret2 d2 0 0 (.ref (G.2.1 a) :: As) Γ σ (PP (some (.int r)) Γ σ)) (kk : WX l G y cc nL ret d mc ms Γ σ k n (pc + 3) lv (.int r :: st)) : WX l G y cc nL ret d mc ms Γ σ k n pc lv As' := by
  intro p e s m args below meth c H locs ls A E Rp S L
  obtain ⟨c1, c2, c3, c4, c5, c6, c7⟩ := C
  have hKK := A.2.2.2.2.2.2.2.2
  subst has
  have hr := va_runV (p := p) (l := l) (e := e) (R := rmOf d mc ms) (below := below) (meth := meth) (H := H) (locs := locs) (cells := k) (slots := n) (Ts := Cond.code y cc nL ret :: gw) (C := y2.cls) (As := As) (rest := st) (g := F0 m pc ls (As.reverse ++ .ref (G.2.1 a) :: st)) ⟨A.1, A.2.1, A.2.2.1, A.2.2.2.1, A.2.2.2.2.1⟩ hM (cwV np A.2.2.2.2.1 (gi_gw (w1 := wsV y.cls index y2.cls y2 (Cond.code y2 cc2 nL2 ret2 :: gw)) (fun w hw => by
    simp only [wsV, List.cons_append, List.nil_append, List.mem_cons] at hw
    rcases hw with rfl | rfl | rfl | rfl | rfl | h
    · exact c1
    · exact c2
    · exact c3
    · exact c4
    · exact c5
    · exact h)) rfl rfl rfl ⟨rfl, c7⟩ ⟨hdd, by
      show 8 + (nL2 + 11) + (41 * d2 + 32) ≤ 41 * d + 32
      omega⟩) ⟨pc_blind, by
        have := va_recv hKK.1 (one_P (Rp.obj ht)) (q0 := 0) hc rfl
        rw [hcn] at this
        exact this, fun U hU hW => ⟨rfl, by rw [hU]; exact Rp, hKK.at S hU hW⟩⟩ rfl hn L.1 rfl (lv_room hst) hd ⟨hm1, hm2⟩
  intro T hT X
  obtain ⟨v, st₀, t, T', L2, h0, X', hL, e1, e2, ⟨⟨v2, Γ', σ', hv, hp, hb'⟩, hz, hk'⟩, st'⟩ := hr T hT X
  cases hv
  obtain ⟨g1, g2, g3⟩ := hp
  subst g1
  subst g2
  subst g3
  rw [h0] at hz hk'
  obtain ⟨t2, a1, b1⟩ := kk p e s m args below meth c T'.heap (locs ++ L2) ls A E (by rw [e1]; exact hb')
    ⟨Nat.le_trans S.1 (by rw [e1]; exact hz), fun q h1 h2 => by rw [e1, hk' q (Nat.lt_of_lt_of_le h1 S.1) h2]; exact S.2.1 q h1 h2, fun q hq => by
      rcases List.mem_append.mp hq with h | h
      · exact S.2.2 q h
      · exact hL q h⟩ L T' rfl X'
  exact ⟨t2, st' t2 a1, b1⟩
end X
def nseB : ByteArray := ⟨#[0x2a, 0x2b, 0xb7, 0, 13, 0xb1]⟩
def thrL : List Cond := Cond.classLink RX12 148 NSE :: Cond.initialized NSE :: vx_atX RX12 152 NSE 13 nseB ["java/lang/RuntimeException", "java/lang/Exception"]
theorem thr_in : ∀ w ∈ thrL.filter goodWord, w ∈ gw := by decide +kernel
theorem thr_no : ∀ w ∈ thrL.filter (fun w => !goodWord w), w ∈ KTl := by decide +kernel
theorem thr_nt : ∀ w ∈ KTl, w ∈ lw_tbl := by decide +kernel
theorem thr_ot : ∀ w ∈ thrL, vx_ot w = true := by decide +kernel
theorem nse0 : decode nseB 0 = .ok (.aload_n 0, 1) := by decide +kernel
theorem nse1 : decode nseB 1 = .ok (.aload_n 1, 1) := by decide +kernel
theorem nse2 : decode nseB 2 = .ok (.invokespecial 13, 3) := by decide +kernel
theorem nse5 : decode nseB 5 = .ok (.return_, 1) := by decide +kernel
