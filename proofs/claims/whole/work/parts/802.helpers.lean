/-! the law's two helpers, which catch -/
def yL_person : MethodName := ⟨"GlassVowsLaw", "person", "(LGlassVows;II[J)I"⟩
def yL_glass : MethodName := ⟨"GlassVowsLaw", "glass", "(LGlassVows;II[J)I"⟩
def hhL : List (Nat × Nat × Nat × Nat) := [(0, 10, 13, 13)]
theorem cw_person : Cond.codeWith yL_person method_3_code 5 (some .int) hhL ∈ gw := by decide +kernel
theorem cw_glass : Cond.codeWith yL_glass method_4_code 5 (some .int) hhL ∈ gw := by decide +kernel
theorem cl_13 : Cond.classLink RL 13 NSE ∈ gw := by decide +kernel
theorem cvH_7 : CVd RL 7 yX12_person cX12_person 3 (some .int) 2 := ⟨by decide +kernel, by decide +kernel, by decide +kernel, by decide +kernel, by decide +kernel, by decide, by decide, by decide, by decide +kernel⟩
theorem cvH_15 : CVd RL 15 yX12_glass cX12_glass 3 (some .int) 2 := ⟨by decide +kernel, by decide +kernel, by decide +kernel, by decide +kernel, by decide +kernel, by decide, by decide, by decide, by decide +kernel⟩
def HD (cH : ByteArray) (ix : Nat) : Prop := decode cH 0 = .ok (.aload_n 3, 1) ∧ decode cH 1 = .ok (.iconst 0, 1) ∧ decode cH 2 = .ok (.aload_n 0, 1) ∧ decode cH 3 = .ok (.iload_n 1, 1) ∧ decode cH 4 = .ok (.iload_n 2, 1) ∧ decode cH 5 = .ok (.invokevirtual ix, 3) ∧ decode cH 8 = .ok (.i2l, 1) ∧ decode cH 9 = .ok (.lastore, 1) ∧ decode cH 10 = .ok (.goto 7, 3) ∧ decode cH 13 = .ok (.astore 4, 2) ∧ decode cH 15 = .ok (.iconst 1, 1) ∧ decode cH 16 = .ok (.ireturn, 1) ∧ decode cH 17 = .ok (.iconst 0, 1) ∧ decode cH 18 = .ok (.ireturn, 1)
theorem hd_person : HD method_3_code 7 := ⟨by decide +kernel, by decide +kernel, by decide +kernel, by decide +kernel, by decide +kernel, by decide +kernel, by decide +kernel, by decide +kernel, by decide +kernel, by decide +kernel, by decide +kernel, by decide +kernel, by decide +kernel, by decide +kernel⟩
theorem hd_glass : HD method_4_code 15 := ⟨by decide +kernel, by decide +kernel, by decide +kernel, by decide +kernel, by decide +kernel, by decide +kernel, by decide +kernel, by decide +kernel, by decide +kernel, by decide +kernel, by decide +kernel, by decide +kernel, by decide +kernel, by decide +kernel⟩
def HC (G : gg) (qo : Nat) (ov : Int64) (H : Heap) : Prop := H[qo]? = some (vp_cell (G.2.2.2.1 4) (1, .inr (.inl (fun _ => ov))))
def HPre (G : gg) (Γ : ly) (σ : mm) (qo : Nat) (ov : Int64) (U : State) : Prop := Rep G Γ σ U.heap ∧ KK G U U.heap ∧ KT U ∧ HC G qo ov U.heap
def HA (G : gg) (qo : Nat) : Nat → Prop := fun q => g_own G q ∨ q = qo
def HQ (G : gg) (Γ : ly) (σ : mm) (qo : Nat) (r : Int32) (ov : Int64) : Array Value → State → Outcome → State → Prop := va_Qi (S := Unit) (fun r' _ => r' = r) (fun _ t => Rep G Γ σ t.heap ∧ HC G qo ov t.heap) (HA G qo)
def HX (G : gg) : String → State → State → Prop := vx_X (S := Unit) (fun _ => False) (fun _ _ _ => True) (g_own G)
theorem hp_blind {G : gg} {Γ : ly} {σ : mm} {qo : Nat} {ov : Int64} {As : List Value} : FrameBlind (va_Pc As (HPre G Γ σ qo ov)) := fun a U g mk q => ⟨q.1, q.2.1, KK.same (u := U) (U := U.calling g mk a) rfl q.2.2.1, KT.same (u := U) (U := U.calling g mk a) rfl q.2.2.2.1, q.2.2.2.2⟩
theorem px_blind {G : gg} {Γ : ly} {σ : mm} {As : List Value} : FrameBlind (va_Pc As (fun U => Rep G Γ σ U.heap ∧ KK G U U.heap ∧ KT U)) := fun a U g mk q => ⟨q.1, q.2.1, KK.same (u := U) (U := U.calling g mk a) rfl q.2.2.1, KT.same (u := U) (U := U.calling g mk a) rfl q.2.2.2⟩
theorem arrV1 {cI : ClassId} {f g : Nat → Value} (h : f 0 = g 0) : arrV cI 1 f = arrV cI 1 g := by
  unfold arrV
  have h1 : (fun j : Fin 1 => f j.val) = fun j => g j.val := by
    funext j
    rw [show j.val = 0 by omega]
    exact h
  rw [h1]
theorem hv_ws {ix : Nat} {y2 : MethodName} {cc2 : ByteArray} {nL2 np : Nat} {ret2 : Option FieldType} (C : CVd RL ix y2 cc2 nL2 ret2 np) : ∀ w ∈ wsV RL ix y2.cls y2 (Cond.code y2 cc2 nL2 ret2 :: gw), w ∈ gw := by
  obtain ⟨c1, c2, c3, c4, c5, c6, c7⟩ := C
  intro w hw
  simp only [wsV, List.cons_append, List.nil_append, List.mem_cons] at hw
  rcases hw with rfl | rfl | rfl | rfl | rfl | h
  · exact c1
  · exact c2
  · exact c3
  · exact c4
  · exact c5
  · exact h
