/-! person and glass throw: their contracts -/
theorem x_throw {l : Launch} {G : gg} {y : MethodName} {cc : ByteArray} {nL : Nat} {ret : Option FieldType} {d mc ms k n pc is : Nat} {lv : List (Nat × Value)} {Γ : ly} {σ : mm} {text : String} (hl : l.stackTraces = false) (hf : G.1.2.2 = false) (hy : y.cls = RX12) (hstr : ∀ U, KN U → ∃ a, vk_R RX12 is text a U) (hd : 7 ≤ d) (hk : k + 1 ≤ mc) (hn : n + 6 ≤ ms)
    (d0 : decode cc pc = .ok (.new 148, 3)) (d3 : decode cc (pc + 3) = .ok (.dup, 1)) (d4 : decode cc (pc + 4) = .ok (.ldc is, 2)) (d6 : decode cc (pc + 6) = .ok (.invokespecial 152, 3)) (d9 : decode cc (pc + 9) = .ok (.athrow, 1)) : WX l G y cc nL ret d mc ms Γ σ k n pc lv [] := by
  intro p e s m args below meth c H locs ls A E Rp S L
  have hKK := A.2.2.2.2.2.2.2.2
  obtain ⟨sa, hsa⟩ := hstr s hKK.2.2.2
  have hall : ∀ w ∈ thrL, w.before args s = true := vx_hat (fun w h => A.2.2.2.2.1 w (List.mem_cons_of_mem _ (thr_in w h))) thr_no (fun w h => va_Nw.use (KTl_on w h) (E.2 w h))
  exact vx_throwX (A := g_own G) A.1 A.2.1 hl nse0 nse1 nse2 nse5 (own := RX12) (cls := NSE) (names := ["java/lang/RuntimeException", "java/lang/Exception"]) (by rw [← hy]; exact A.2.2.2.1) (by decide) (by decide)
    (hall _ List.mem_cons_self) (hall _ (List.mem_cons_of_mem _ List.mem_cons_self)) hsa (fun w h => hall w (List.mem_cons_of_mem _ (List.mem_cons_of_mem _ h))) thr_ot hKK.kx.2.2.2.2.2.1 hKK.kx.2.2.2.2.2.2 S (L.1.trans A.2.2.1.symm) d0 d3 d4 d6 d9 (fun x hx => (E.1 x hx).elim)
    (by show 2 + 3 < d; omega) (by show 0 + (13 * (2 + 1) + 43) ≤ 41 * d + 32; omega) hk hn A.2.2.2.2.2.2.1
    (fun t _ h1 h2 => ⟨(), trivial, ⟨rfl, Rp.off hf hKK.2.1 (fun q hq _ => h2 q hq)⟩, ⟨Nat.le_trans S.1 h1, fun q hq hno => (h2 q (Nat.lt_of_lt_of_le hq S.1)).trans (S.2.1 q hq hno)⟩⟩) S.2.2 hk hn
theorem WX.met {l : Launch} {G : gg} {y : MethodName} {cc : ByteArray} {nL : Nat} {ret : Option FieldType} {d mc ms : Nat} {As : List Value} {Γ : ly} {σ : mm} (hy : plainName y.cls = true) (hl : (lg_sl As).length ≤ nL)
    (h : WX l G y cc nL ret d mc ms Γ σ 0 0 0 (lv_args 0 As) []) : vx_Met l y (Cond.code y cc nL ret :: gw) (rmOf d mc ms) (va_Pc As (fun U => Rep G Γ σ U.heap ∧ KK G U U.heap ∧ KT U)) (XQ G) (XG G Γ σ) mc ms (g_own G) := by
  refine vx_ofW (cc := cc) (maxL := nL) (ret := ret) hy rfl ?_
  intro p e s m args below meth c s₁ B hml ht hv
  obtain ⟨rfl, hR, hK, hT⟩ := hv
  have hle := lv_entry As (n := nL) hl
  rw [lg_entry_eq]
  exact h p e s m _ below meth c s.heap [] _ ⟨B.exec, B.bytes, hml, findClass_of_methodNamed B.named, atoms_spec (ws := Cond.code y cc nL ret :: gw) B.pre, B.returns, B.notSynchronized, (name_of_methodNamed B.named B.method).1, hK⟩ ⟨ht, hT⟩ hR va_S.rf hle
theorem thr_out {x : Int32} {n : Nat} (h : ∀ k, k < n → x ≠ Int32.ofNat k) : x.toInt < 0 ∨ (n : Int) - 1 < x.toInt := by
  by_cases h0 : x.toInt < 0
  · exact Or.inl h0
  · refine Or.inr ?_
    by_cases h1 : (n : Int) - 1 < x.toInt
    · exact h1
    · exfalso
      have hk : ((x.toInt.toNat : Nat) : Int) = x.toInt := Int.toNat_of_nonneg (by omega)
      refine h x.toInt.toNat (by omega) ?_
      have h2 : Int32.ofInt x.toInt = x := Int32.ofInt_toInt x
      rw [← hk] at h2
      exact h2.symm
theorem kx_person {l : Launch} {G : gg} {Γ : ly} {σ : mm} (hl : l.stackTraces = false) (hf : G.1.2.2 = false) (d : Nat) (hdd : 7 ≤ d) (x0 b : Nat) (x1 x2 : Int32) (t0 : tyOK Γ (0, 11) x0) (hb : σ.2.2 x0 1 = some b) (h : ThrX (fX4_hasPerson Γ.2 σ b x1) 6 x2) :
    vx_Met l yX12_person (Cond.code yX12_person cX12_person 3 (some .int) :: gw) (rmOf d 1 6) (va_Pc [.ref (G.2.1 x0), .int x1, .int x2] (fun U => Rep G Γ σ U.heap ∧ KK G U U.heap ∧ KT U)) (XQ G) (XG G Γ σ) 1 6 (g_own G) := by
  refine WX.met (by decide) (Nat.le_of_ble_eq_true rfl) ?_
  show WX l G yX12_person cX12_person 3 (some .int) d 1 6 Γ σ 0 0 0 [(0, .ref (G.2.1 x0)), (1, .int x1), (2, .int x2)] []
  refine x_aload_n 0 dX12_person_0 rfl ?_
  refine x_getR dX12_person_1 fd_X12_19 t0 hb (fun tr1 => ?_)
  refine x_iload_n 1 dX12_person_4 rfl ?_
  rcases h with h0 | ⟨h1, h2⟩
  · refine x_call (r := 0) (d2 := d - 1) [.int x1] dX12_person_5 cv_X12_144 (ci := 4) rfl rfl tr1 rfl rfl (Nat.le_of_ble_eq_true rfl) (by omega) (by omega) (by omega) (kX4_hasPerson (d - 1) (by omega) b x1 tr1 0 h0) ?_
    refine x_if_f 21 dX12_person_8 (by decide) rfl ?_
    exact x_throw hl hf rfl (fun U hU => hU.2.2.2.1) hdd (by omega) (by omega) dX12_person_11 dX12_person_14 dX12_person_15 dX12_person_17 dX12_person_20
  · refine x_call (r := 1) (d2 := d - 1) [.int x1] dX12_person_5 cv_X12_144 (ci := 4) rfl rfl tr1 rfl rfl (Nat.le_of_ble_eq_true rfl) (by omega) (by omega) (by omega) (kX4_hasPerson (d - 1) (by omega) b x1 tr1 1 h1) ?_
    refine x_if_t 21 dX12_person_8 (by decide) (by decide) ?_
    refine x_iload_n 2 dX12_person_21 rfl ?_
    refine x_tableD 122 dX12_person_22 (thr_out h2) (by decide) ?_
    exact x_throw hl hf rfl (fun U hU => hU.2.2.2.2.1) hdd (by omega) (by omega) dX12_person_122 dX12_person_125 dX12_person_126 dX12_person_128 dX12_person_131
theorem kx_glass {l : Launch} {G : gg} {Γ : ly} {σ : mm} (hl : l.stackTraces = false) (hf : G.1.2.2 = false) (d : Nat) (hdd : 7 ≤ d) (x0 b : Nat) (x1 x2 : Int32) (t0 : tyOK Γ (0, 11) x0) (hb : σ.2.2 x0 1 = some b) (h : ThrX (fX4_hasGlass Γ.2 σ b x1) 10 x2) :
    vx_Met l yX12_glass (Cond.code yX12_glass cX12_glass 3 (some .int) :: gw) (rmOf d 1 6) (va_Pc [.ref (G.2.1 x0), .int x1, .int x2] (fun U => Rep G Γ σ U.heap ∧ KK G U U.heap ∧ KT U)) (XQ G) (XG G Γ σ) 1 6 (g_own G) := by
  refine WX.met (by decide) (Nat.le_of_ble_eq_true rfl) ?_
  show WX l G yX12_glass cX12_glass 3 (some .int) d 1 6 Γ σ 0 0 0 [(0, .ref (G.2.1 x0)), (1, .int x1), (2, .int x2)] []
  refine x_aload_n 0 dX12_glass_0 rfl ?_
  refine x_getR dX12_glass_1 fd_X12_19 t0 hb (fun tr1 => ?_)
  refine x_iload_n 1 dX12_glass_4 rfl ?_
  rcases h with h0 | ⟨h1, h2⟩
  · refine x_call (r := 0) (d2 := d - 1) [.int x1] dX12_glass_5 cv_X12_181 (ci := 4) rfl rfl tr1 rfl rfl (Nat.le_of_ble_eq_true rfl) (by omega) (by omega) (by omega) (kX4_hasGlass (d - 1) (by omega) b x1 tr1 0 h0) ?_
    refine x_if_f 21 dX12_glass_8 (by decide) rfl ?_
    exact x_throw hl hf rfl (fun U hU => hU.2.2.2.2.2.1) hdd (by omega) (by omega) dX12_glass_11 dX12_glass_14 dX12_glass_15 dX12_glass_17 dX12_glass_20
  · refine x_call (r := 1) (d2 := d - 1) [.int x1] dX12_glass_5 cv_X12_181 (ci := 4) rfl rfl tr1 rfl rfl (Nat.le_of_ble_eq_true rfl) (by omega) (by omega) (by omega) (kX4_hasGlass (d - 1) (by omega) b x1 tr1 1 h1) ?_
    refine x_if_t 21 dX12_glass_8 (by decide) (by decide) ?_
    refine x_iload_n 2 dX12_glass_21 rfl ?_
    refine x_tableD 212 dX12_glass_22 (thr_out h2) (by decide) ?_
    exact x_throw hl hf rfl (fun U hU => hU.2.2.2.2.2.2) hdd (by omega) (by omega) dX12_glass_212 dX12_glass_215 dX12_glass_216 dX12_glass_218 dX12_glass_221
