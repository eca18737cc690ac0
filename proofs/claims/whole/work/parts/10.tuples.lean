/-! tuples taken apart; words by their places -/
def un2 {A1 A2 B : Type} (F : A1 → A2 → B) (s : A1 × A2) : B := F s.1 s.2
theorem un2_some {A1 A2 B : Type} {F : A1 → A2 → Option B} {a1 : A1} {a2 : A2} {r : B} (h : un2 F (a1, a2) = some r) : F a1 a2 = some r := h
def un3 {A1 A2 A3 B : Type} (F : A1 → A2 → A3 → B) (s : A1 × A2 × A3) : B := F s.1 s.2.1 s.2.2
theorem un3_some {A1 A2 A3 B : Type} {F : A1 → A2 → A3 → Option B} {a1 : A1} {a2 : A2} {a3 : A3} {r : B} (h : un3 F (a1, a2, a3) = some r) : F a1 a2 a3 = some r := h
def un4 {A1 A2 A3 A4 B : Type} (F : A1 → A2 → A3 → A4 → B) (s : A1 × A2 × A3 × A4) : B := F s.1 s.2.1 s.2.2.1 s.2.2.2
theorem un4_some {A1 A2 A3 A4 B : Type} {F : A1 → A2 → A3 → A4 → Option B} {a1 : A1} {a2 : A2} {a3 : A3} {a4 : A4} {r : B} (h : un4 F (a1, a2, a3, a4) = some r) : F a1 a2 a3 a4 = some r := h
def un5 {A1 A2 A3 A4 A5 B : Type} (F : A1 → A2 → A3 → A4 → A5 → B) (s : A1 × A2 × A3 × A4 × A5) : B := F s.1 s.2.1 s.2.2.1 s.2.2.2.1 s.2.2.2.2
theorem un5_some {A1 A2 A3 A4 A5 B : Type} {F : A1 → A2 → A3 → A4 → A5 → Option B} {a1 : A1} {a2 : A2} {a3 : A3} {a4 : A4} {a5 : A5} {r : B} (h : un5 F (a1, a2, a3, a4, a5) = some r) : F a1 a2 a3 a4 a5 = some r := h
def un6 {A1 A2 A3 A4 A5 A6 B : Type} (F : A1 → A2 → A3 → A4 → A5 → A6 → B) (s : A1 × A2 × A3 × A4 × A5 × A6) : B := F s.1 s.2.1 s.2.2.1 s.2.2.2.1 s.2.2.2.2.1 s.2.2.2.2.2
theorem un6_some {A1 A2 A3 A4 A5 A6 B : Type} {F : A1 → A2 → A3 → A4 → A5 → A6 → Option B} {a1 : A1} {a2 : A2} {a3 : A3} {a4 : A4} {a5 : A5} {a6 : A6} {r : B} (h : un6 F (a1, a2, a3, a4, a5, a6) = some r) : F a1 a2 a3 a4 a5 a6 = some r := h
def un7 {A1 A2 A3 A4 A5 A6 A7 B : Type} (F : A1 → A2 → A3 → A4 → A5 → A6 → A7 → B) (s : A1 × A2 × A3 × A4 × A5 × A6 × A7) : B := F s.1 s.2.1 s.2.2.1 s.2.2.2.1 s.2.2.2.2.1 s.2.2.2.2.2.1 s.2.2.2.2.2.2
theorem un7_some {A1 A2 A3 A4 A5 A6 A7 B : Type} {F : A1 → A2 → A3 → A4 → A5 → A6 → A7 → Option B} {a1 : A1} {a2 : A2} {a3 : A3} {a4 : A4} {a5 : A5} {a6 : A6} {a7 : A7} {r : B} (h : un7 F (a1, a2, a3, a4, a5, a6, a7) = some r) : F a1 a2 a3 a4 a5 a6 a7 = some r := h
def un8 {A1 A2 A3 A4 A5 A6 A7 A8 B : Type} (F : A1 → A2 → A3 → A4 → A5 → A6 → A7 → A8 → B) (s : A1 × A2 × A3 × A4 × A5 × A6 × A7 × A8) : B := F s.1 s.2.1 s.2.2.1 s.2.2.2.1 s.2.2.2.2.1 s.2.2.2.2.2.1 s.2.2.2.2.2.2.1 s.2.2.2.2.2.2.2
theorem un8_some {A1 A2 A3 A4 A5 A6 A7 A8 B : Type} {F : A1 → A2 → A3 → A4 → A5 → A6 → A7 → A8 → Option B} {a1 : A1} {a2 : A2} {a3 : A3} {a4 : A4} {a5 : A5} {a6 : A6} {a7 : A7} {a8 : A8} {r : B} (h : un8 F (a1, a2, a3, a4, a5, a6, a7, a8) = some r) : F a1 a2 a3 a4 a5 a6 a7 a8 = some r := h
def cs2 {A1 A2 B : Type} (F1 : A1 → B) (F2 : A2 → B) (s : A1 ⊕ A2) : B := match s with
  | .inl x => F1 x
  | .inr x => F2 x
theorem cs2_0 {A1 A2 B : Type} {F1 : A1 → Option B} {F2 : A2 → Option B} {x : A1} {r : B} (h : cs2 F1 F2 (.inl x) = some r) : F1 x = some r := h
theorem cs2_1 {A1 A2 B : Type} {F1 : A1 → Option B} {F2 : A2 → Option B} {x : A2} {r : B} (h : cs2 F1 F2 (.inr x) = some r) : F2 x = some r := h
def cs3 {A1 A2 A3 B : Type} (F1 : A1 → B) (F2 : A2 → B) (F3 : A3 → B) (s : A1 ⊕ A2 ⊕ A3) : B := match s with
  | .inl x => F1 x
  | .inr (.inl x) => F2 x
  | .inr (.inr x) => F3 x
theorem cs3_0 {A1 A2 A3 B : Type} {F1 : A1 → Option B} {F2 : A2 → Option B} {F3 : A3 → Option B} {x : A1} {r : B} (h : cs3 F1 F2 F3 (.inl x) = some r) : F1 x = some r := h
theorem cs3_1 {A1 A2 A3 B : Type} {F1 : A1 → Option B} {F2 : A2 → Option B} {F3 : A3 → Option B} {x : A2} {r : B} (h : cs3 F1 F2 F3 (.inr (.inl x)) = some r) : F2 x = some r := h
theorem cs3_2 {A1 A2 A3 B : Type} {F1 : A1 → Option B} {F2 : A2 → Option B} {F3 : A3 → Option B} {x : A3} {r : B} (h : cs3 F1 F2 F3 (.inr (.inr x)) = some r) : F3 x = some r := h
def cs4 {A1 A2 A3 A4 B : Type} (F1 : A1 → B) (F2 : A2 → B) (F3 : A3 → B) (F4 : A4 → B) (s : A1 ⊕ A2 ⊕ A3 ⊕ A4) : B := match s with
  | .inl x => F1 x
  | .inr (.inl x) => F2 x
  | .inr (.inr (.inl x)) => F3 x
  | .inr (.inr (.inr x)) => F4 x
theorem cs4_0 {A1 A2 A3 A4 B : Type} {F1 : A1 → Option B} {F2 : A2 → Option B} {F3 : A3 → Option B} {F4 : A4 → Option B} {x : A1} {r : B} (h : cs4 F1 F2 F3 F4 (.inl x) = some r) : F1 x = some r := h
theorem cs4_1 {A1 A2 A3 A4 B : Type} {F1 : A1 → Option B} {F2 : A2 → Option B} {F3 : A3 → Option B} {F4 : A4 → Option B} {x : A2} {r : B} (h : cs4 F1 F2 F3 F4 (.inr (.inl x)) = some r) : F2 x = some r := h
theorem cs4_2 {A1 A2 A3 A4 B : Type} {F1 : A1 → Option B} {F2 : A2 → Option B} {F3 : A3 → Option B} {F4 : A4 → Option B} {x : A3} {r : B} (h : cs4 F1 F2 F3 F4 (.inr (.inr (.inl x))) = some r) : F3 x = some r := h
theorem cs4_3 {A1 A2 A3 A4 B : Type} {F1 : A1 → Option B} {F2 : A2 → Option B} {F3 : A3 → Option B} {F4 : A4 → Option B} {x : A4} {r : B} (h : cs4 F1 F2 F3 F4 (.inr (.inr (.inr x))) = some r) : F4 x = some r := h
theorem fw_enum : Cond.fieldLink RJx29ce0 7 "java/lang/Enum" "ordinal" "I" ∈ gw := gw1 2458 (by decide +kernel) (by decide +kernel)
theorem k_ordinal {l : Launch} {G : gg} {Γ : ly} {σ : mm} (d : Nat) (x0 : Nat) (t0 : tyOK Γ (100, 0) x0) : CT l G yJx29ce0_ordinal_8abf5 cJx29ce0_ordinal_8abf5 1 (some .int) d 0 0 [.ref (G.2.1 x0)] Γ σ (PP (some (.int (Int32.ofNat x0))) Γ σ) := by
  refine CT.ofWP (by decide) (Nat.le_of_ble_eq_true rfl) ?_
  show WP l G yJx29ce0_ordinal_8abf5 cJx29ce0_ordinal_8abf5 1 (some .int) d 0 0 (PP (some (.int (Int32.ofNat x0))) Γ σ) 0 0 0 [(0, .ref (G.2.1 x0))] [] Γ σ
  refine r_aload_n 0 dJx29ce0_ordinal_8abf5_0 rfl ?_
  refine r_word_ord dJx29ce0_ordinal_8abf5_1 fw_enum t0 ?_
  exact r_ireturn dJx29ce0_ordinal_8abf5_4 rfl PP.self (Nat.le_refl _) (Nat.le_refl _)
theorem mx_X12_363 : MXd RX12 363 := ⟨gw1 1258 (by decide +kernel) (by decide +kernel), gw1 1039 (by decide +kernel) (by decide +kernel), gw1 166 (by decide +kernel) (by decide +kernel), gw1 1040 (by decide +kernel) (by decide +kernel)⟩
theorem mx_X1_86 : MXd RX1 86 := ⟨gw1 1093 (by decide +kernel) (by decide +kernel), gw1 1039 (by decide +kernel) (by decide +kernel), gw1 166 (by decide +kernel) (by decide +kernel), gw1 1040 (by decide +kernel) (by decide +kernel)⟩
theorem mx_X1_100 : MNd RX1 100 := ⟨gw1 1180 (by decide +kernel) (by decide +kernel), gw1 988 (by decide +kernel) (by decide +kernel), gw1 166 (by decide +kernel) (by decide +kernel), gw1 989 (by decide +kernel) (by decide +kernel)⟩
theorem mx_X2_43 : MNd RX2 43 := ⟨gw1 1235 (by decide +kernel) (by decide +kernel), gw1 988 (by decide +kernel) (by decide +kernel), gw1 166 (by decide +kernel) (by decide +kernel), gw1 989 (by decide +kernel) (by decide +kernel)⟩
theorem mx_X3_84 : MNd RX3 84 := ⟨gw1 987 (by decide +kernel) (by decide +kernel), gw1 988 (by decide +kernel) (by decide +kernel), gw1 166 (by decide +kernel) (by decide +kernel), gw1 989 (by decide +kernel) (by decide +kernel)⟩
theorem mx_X3_90 : MXd RX3 90 := ⟨gw1 1038 (by decide +kernel) (by decide +kernel), gw1 1039 (by decide +kernel) (by decide +kernel), gw1 166 (by decide +kernel) (by decide +kernel), gw1 1040 (by decide +kernel) (by decide +kernel)⟩
theorem mx_X4_114 : MNd RX4 114 := ⟨gw1 1050 (by decide +kernel) (by decide +kernel), gw1 988 (by decide +kernel) (by decide +kernel), gw1 166 (by decide +kernel) (by decide +kernel), gw1 989 (by decide +kernel) (by decide +kernel)⟩
theorem mx_X4_120 : MXd RX4 120 := ⟨gw1 1051 (by decide +kernel) (by decide +kernel), gw1 1039 (by decide +kernel) (by decide +kernel), gw1 166 (by decide +kernel) (by decide +kernel), gw1 1040 (by decide +kernel) (by decide +kernel)⟩
theorem mx_X10_29 : MNd RX10 29 := ⟨gw1 1126 (by decide +kernel) (by decide +kernel), gw1 988 (by decide +kernel) (by decide +kernel), gw1 166 (by decide +kernel) (by decide +kernel), gw1 989 (by decide +kernel) (by decide +kernel)⟩
theorem mx_X10_35 : MXd RX10 35 := ⟨gw1 1127 (by decide +kernel) (by decide +kernel), gw1 1039 (by decide +kernel) (by decide +kernel), gw1 166 (by decide +kernel) (by decide +kernel), gw1 1040 (by decide +kernel) (by decide +kernel)⟩
