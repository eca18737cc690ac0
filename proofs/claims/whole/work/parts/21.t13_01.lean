/-! the walks, 1 -/
theorem kX13_wordOf {l : Launch} {G : gg} {Γ : ly} {σ : mm} (d : Nat) (hdd : 1 ≤ d) (x0 : Int32)  (r : Int64) (h : fX13_wordOf Γ.2 σ x0 = some r) : CT l G yX13_wordOf cX13_wordOf 1 (some .long) d 0 0 [.int x0] Γ σ (PP (some (.long r)) Γ σ) := by
  refine CT.ofWP (by decide) (Nat.le_of_ble_eq_true rfl) ?_
  have hQ : PP (some (.long r)) Γ σ (some (.long r)) Γ σ := PP.self
  generalize PP (some (.long r)) Γ σ = Q at hQ ⊢
  show WP l G yX13_wordOf cX13_wordOf 1 (some .long) d 0 0 Q 0 0 0 [(0, .int x0)] [] Γ σ
  unfold fX13_wordOf at h
  refine r_iload_n 0 dX13_wordOf_0 rfl ?_
  rcases if_split h with ⟨q9, h⟩ | ⟨n0, h⟩
  · refine r_table (0 : Int32) 127 128 dX13_wordOf_1 q9 (by decide) (by decide) rfl (by decide) ?_
    refine r_bipush (v := 112) dX13_wordOf_128 (by decide) ?_
    refine r_bipush (v := 101) dX13_wordOf_130 (by decide) ?_
    refine r_bipush (v := 114) dX13_wordOf_132 (by decide) ?_
    refine r_bipush (v := 115) dX13_wordOf_134 (by decide) ?_
    refine r_bipush (v := 111) dX13_wordOf_136 (by decide) ?_
    refine r_bipush (v := 110) dX13_wordOf_138 (by decide) ?_
    obtain ⟨v1, ev1, h⟩ := bd0_some h
    refine q_cSL [.int (112 : Int32), .int (101 : Int32), .int (114 : Int32), .int (115 : Int32), .int (111 : Int32), .int (110 : Int32)] dX13_wordOf_140 cs_X13_58 rfl rfl (Nat.le_of_ble_eq_true rfl) (by omega) (kX13_spelt (d - 1) (by omega) (112 : Int32) (101 : Int32) (114 : Int32) (115 : Int32) (111 : Int32) (110 : Int32)  v1 ev1) ?_
    obtain rfl := Option.some.inj h
    exact r_lreturn dX13_wordOf_143 rfl hQ (Nat.le_refl _) (Nat.le_refl _)
  rcases if_split h with ⟨q9, h⟩ | ⟨n1, h⟩
  · refine r_table (1 : Int32) 143 144 dX13_wordOf_1 q9 (by decide) (by decide) rfl (by decide) ?_
    refine r_bipush (v := 119) dX13_wordOf_144 (by decide) ?_
    refine r_bipush (v := 97) dX13_wordOf_146 (by decide) ?_
    refine r_bipush (v := 114) dX13_wordOf_148 (by decide) ?_
    refine r_bipush (v := 109) dX13_wordOf_150 (by decide) ?_
    refine r_bipush (v := 115) dX13_wordOf_152 (by decide) ?_
    refine r_iconst (v := 0) dX13_wordOf_154 (by decide) ?_
    obtain ⟨v2, ev2, h⟩ := bd0_some h
    refine q_cSL [.int (119 : Int32), .int (97 : Int32), .int (114 : Int32), .int (109 : Int32), .int (115 : Int32), .int (0 : Int32)] dX13_wordOf_155 cs_X13_58 rfl rfl (Nat.le_of_ble_eq_true rfl) (by omega) (kX13_spelt (d - 1) (by omega) (119 : Int32) (97 : Int32) (114 : Int32) (109 : Int32) (115 : Int32) (0 : Int32)  v2 ev2) ?_
    obtain rfl := Option.some.inj h
    exact r_lreturn dX13_wordOf_158 rfl hQ (Nat.le_refl _) (Nat.le_refl _)
  rcases if_split h with ⟨q9, h⟩ | ⟨n2, h⟩
  · refine r_table (2 : Int32) 158 159 dX13_wordOf_1 q9 (by decide) (by decide) rfl (by decide) ?_
    refine r_bipush (v := 99) dX13_wordOf_159 (by decide) ?_
    refine r_bipush (v := 111) dX13_wordOf_161 (by decide) ?_
    refine r_bipush (v := 111) dX13_wordOf_163 (by decide) ?_
    refine r_bipush (v := 108) dX13_wordOf_165 (by decide) ?_
    refine r_bipush (v := 115) dX13_wordOf_167 (by decide) ?_
    refine r_iconst (v := 0) dX13_wordOf_169 (by decide) ?_
    obtain ⟨v3, ev3, h⟩ := bd0_some h
    refine q_cSL [.int (99 : Int32), .int (111 : Int32), .int (111 : Int32), .int (108 : Int32), .int (115 : Int32), .int (0 : Int32)] dX13_wordOf_170 cs_X13_58 rfl rfl (Nat.le_of_ble_eq_true rfl) (by omega) (kX13_spelt (d - 1) (by omega) (99 : Int32) (111 : Int32) (111 : Int32) (108 : Int32) (115 : Int32) (0 : Int32)  v3 ev3) ?_
    obtain rfl := Option.some.inj h
    exact r_lreturn dX13_wordOf_173 rfl hQ (Nat.le_refl _) (Nat.le_refl _)
  rcases if_split h with ⟨q9, h⟩ | ⟨n3, h⟩
  · refine r_table (3 : Int32) 173 174 dX13_wordOf_1 q9 (by decide) (by decide) rfl (by decide) ?_
    refine r_bipush (v := 103) dX13_wordOf_174 (by decide) ?_
    refine r_bipush (v := 108) dX13_wordOf_176 (by decide) ?_
    refine r_bipush (v := 97) dX13_wordOf_178 (by decide) ?_
    refine r_bipush (v := 115) dX13_wordOf_180 (by decide) ?_
    refine r_bipush (v := 115) dX13_wordOf_182 (by decide) ?_
    refine r_iconst (v := 0) dX13_wordOf_184 (by decide) ?_
    obtain ⟨v4, ev4, h⟩ := bd0_some h
    refine q_cSL [.int (103 : Int32), .int (108 : Int32), .int (97 : Int32), .int (115 : Int32), .int (115 : Int32), .int (0 : Int32)] dX13_wordOf_185 cs_X13_58 rfl rfl (Nat.le_of_ble_eq_true rfl) (by omega) (kX13_spelt (d - 1) (by omega) (103 : Int32) (108 : Int32) (97 : Int32) (115 : Int32) (115 : Int32) (0 : Int32)  v4 ev4) ?_
    obtain rfl := Option.some.inj h
    exact r_lreturn dX13_wordOf_188 rfl hQ (Nat.le_refl _) (Nat.le_refl _)
  rcases if_split h with ⟨q9, h⟩ | ⟨n4, h⟩
  · refine r_table (4 : Int32) 188 189 dX13_wordOf_1 q9 (by decide) (by decide) rfl (by decide) ?_
    refine r_bipush (v := 100) dX13_wordOf_189 (by decide) ?_
    refine r_bipush (v := 97) dX13_wordOf_191 (by decide) ?_
    refine r_bipush (v := 109) dX13_wordOf_193 (by decide) ?_
    refine r_bipush (v := 112) dX13_wordOf_195 (by decide) ?_
    refine r_iconst (v := 0) dX13_wordOf_197 (by decide) ?_
    refine r_iconst (v := 0) dX13_wordOf_198 (by decide) ?_
    obtain ⟨v5, ev5, h⟩ := bd0_some h
    refine q_cSL [.int (100 : Int32), .int (97 : Int32), .int (109 : Int32), .int (112 : Int32), .int (0 : Int32), .int (0 : Int32)] dX13_wordOf_199 cs_X13_58 rfl rfl (Nat.le_of_ble_eq_true rfl) (by omega) (kX13_spelt (d - 1) (by omega) (100 : Int32) (97 : Int32) (109 : Int32) (112 : Int32) (0 : Int32) (0 : Int32)  v5 ev5) ?_
    obtain rfl := Option.some.inj h
    exact r_lreturn dX13_wordOf_202 rfl hQ (Nat.le_refl _) (Nat.le_refl _)
  rcases if_split h with ⟨q9, h⟩ | ⟨n5, h⟩
  · refine r_table (5 : Int32) 202 203 dX13_wordOf_1 q9 (by decide) (by decide) rfl (by decide) ?_
    refine r_bipush (v := 103) dX13_wordOf_203 (by decide) ?_
    refine r_bipush (v := 111) dX13_wordOf_205 (by decide) ?_
    refine r_bipush (v := 111) dX13_wordOf_207 (by decide) ?_
    refine r_bipush (v := 100) dX13_wordOf_209 (by decide) ?_
    refine r_iconst (v := 0) dX13_wordOf_211 (by decide) ?_
    refine r_iconst (v := 0) dX13_wordOf_212 (by decide) ?_
    obtain ⟨v6, ev6, h⟩ := bd0_some h
    refine q_cSL [.int (103 : Int32), .int (111 : Int32), .int (111 : Int32), .int (100 : Int32), .int (0 : Int32), .int (0 : Int32)] dX13_wordOf_213 cs_X13_58 rfl rfl (Nat.le_of_ble_eq_true rfl) (by omega) (kX13_spelt (d - 1) (by omega) (103 : Int32) (111 : Int32) (111 : Int32) (100 : Int32) (0 : Int32) (0 : Int32)  v6 ev6) ?_
    obtain rfl := Option.some.inj h
    exact r_lreturn dX13_wordOf_216 rfl hQ (Nat.le_refl _) (Nat.le_refl _)
  rcases if_split h with ⟨q9, h⟩ | ⟨n6, h⟩
  · refine r_table (6 : Int32) 216 217 dX13_wordOf_1 q9 (by decide) (by decide) rfl (by decide) ?_
    refine r_bipush (v := 103) dX13_wordOf_217 (by decide) ?_
    refine r_bipush (v := 114) dX13_wordOf_219 (by decide) ?_
    refine r_bipush (v := 97) dX13_wordOf_221 (by decide) ?_
    refine r_bipush (v := 99) dX13_wordOf_223 (by decide) ?_
    refine r_bipush (v := 101) dX13_wordOf_225 (by decide) ?_
    refine r_iconst (v := 0) dX13_wordOf_227 (by decide) ?_
    obtain ⟨v7, ev7, h⟩ := bd0_some h
    refine q_cSL [.int (103 : Int32), .int (114 : Int32), .int (97 : Int32), .int (99 : Int32), .int (101 : Int32), .int (0 : Int32)] dX13_wordOf_228 cs_X13_58 rfl rfl (Nat.le_of_ble_eq_true rfl) (by omega) (kX13_spelt (d - 1) (by omega) (103 : Int32) (114 : Int32) (97 : Int32) (99 : Int32) (101 : Int32) (0 : Int32)  v7 ev7) ?_
    obtain rfl := Option.some.inj h
    exact r_lreturn dX13_wordOf_231 rfl hQ (Nat.le_refl _) (Nat.le_refl _)
  rcases if_split h with ⟨q9, h⟩ | ⟨n7, h⟩
  · refine r_table (7 : Int32) 231 232 dX13_wordOf_1 q9 (by decide) (by decide) rfl (by decide) ?_
    refine r_bipush (v := 119) dX13_wordOf_232 (by decide) ?_
    refine r_bipush (v := 105) dX13_wordOf_234 (by decide) ?_
    refine r_bipush (v := 115) dX13_wordOf_236 (by decide) ?_
    refine r_bipush (v := 104) dX13_wordOf_238 (by decide) ?_
    refine r_iconst (v := 0) dX13_wordOf_240 (by decide) ?_
    refine r_iconst (v := 0) dX13_wordOf_241 (by decide) ?_
    obtain ⟨v8, ev8, h⟩ := bd0_some h
    refine q_cSL [.int (119 : Int32), .int (105 : Int32), .int (115 : Int32), .int (104 : Int32), .int (0 : Int32), .int (0 : Int32)] dX13_wordOf_242 cs_X13_58 rfl rfl (Nat.le_of_ble_eq_true rfl) (by omega) (kX13_spelt (d - 1) (by omega) (119 : Int32) (105 : Int32) (115 : Int32) (104 : Int32) (0 : Int32) (0 : Int32)  v8 ev8) ?_
    obtain rfl := Option.some.inj h
    exact r_lreturn dX13_wordOf_245 rfl hQ (Nat.le_refl _) (Nat.le_refl _)
  rcases if_split h with ⟨q9, h⟩ | ⟨n8, h⟩
  · refine r_table (8 : Int32) 245 246 dX13_wordOf_1 q9 (by decide) (by decide) rfl (by decide) ?_
    refine r_bipush (v := 101) dX13_wordOf_246 (by decide) ?_
    refine r_bipush (v := 97) dX13_wordOf_248 (by decide) ?_
    refine r_bipush (v := 114) dX13_wordOf_250 (by decide) ?_
    refine r_bipush (v := 108) dX13_wordOf_252 (by decide) ?_
    refine r_bipush (v := 121) dX13_wordOf_254 (by decide) ?_
    refine r_iconst (v := 0) dX13_wordOf_256 (by decide) ?_
    obtain ⟨v9, ev9, h⟩ := bd0_some h
    refine q_cSL [.int (101 : Int32), .int (97 : Int32), .int (114 : Int32), .int (108 : Int32), .int (121 : Int32), .int (0 : Int32)] dX13_wordOf_257 cs_X13_58 rfl rfl (Nat.le_of_ble_eq_true rfl) (by omega) (kX13_spelt (d - 1) (by omega) (101 : Int32) (97 : Int32) (114 : Int32) (108 : Int32) (121 : Int32) (0 : Int32)  v9 ev9) ?_
    obtain rfl := Option.some.inj h
    exact r_lreturn dX13_wordOf_260 rfl hQ (Nat.le_refl _) (Nat.le_refl _)
  rcases if_split h with ⟨q9, h⟩ | ⟨n9, h⟩
  · refine r_table (9 : Int32) 260 261 dX13_wordOf_1 q9 (by decide) (by decide) rfl (by decide) ?_
    refine r_bipush (v := 108) dX13_wordOf_261 (by decide) ?_
    refine r_bipush (v := 101) dX13_wordOf_263 (by decide) ?_
    refine r_bipush (v := 118) dX13_wordOf_265 (by decide) ?_
    refine r_bipush (v := 101) dX13_wordOf_267 (by decide) ?_
    refine r_bipush (v := 108) dX13_wordOf_269 (by decide) ?_
    refine r_iconst (v := 0) dX13_wordOf_271 (by decide) ?_
    obtain ⟨v10, ev10, h⟩ := bd0_some h
    refine q_cSL [.int (108 : Int32), .int (101 : Int32), .int (118 : Int32), .int (101 : Int32), .int (108 : Int32), .int (0 : Int32)] dX13_wordOf_272 cs_X13_58 rfl rfl (Nat.le_of_ble_eq_true rfl) (by omega) (kX13_spelt (d - 1) (by omega) (108 : Int32) (101 : Int32) (118 : Int32) (101 : Int32) (108 : Int32) (0 : Int32)  v10 ev10) ?_
    obtain rfl := Option.some.inj h
    exact r_lreturn dX13_wordOf_275 rfl hQ (Nat.le_refl _) (Nat.le_refl _)
  rcases if_split h with ⟨q9, h⟩ | ⟨n10, h⟩
  · refine r_table (10 : Int32) 275 276 dX13_wordOf_1 q9 (by decide) (by decide) rfl (by decide) ?_
    refine r_bipush (v := 116) dX13_wordOf_276 (by decide) ?_
    refine r_bipush (v := 117) dX13_wordOf_278 (by decide) ?_
    refine r_bipush (v := 114) dX13_wordOf_280 (by decide) ?_
    refine r_bipush (v := 110) dX13_wordOf_282 (by decide) ?_
    refine r_bipush (v := 115) dX13_wordOf_284 (by decide) ?_
    refine r_iconst (v := 0) dX13_wordOf_286 (by decide) ?_
    obtain ⟨v11, ev11, h⟩ := bd0_some h
    refine q_cSL [.int (116 : Int32), .int (117 : Int32), .int (114 : Int32), .int (110 : Int32), .int (115 : Int32), .int (0 : Int32)] dX13_wordOf_287 cs_X13_58 rfl rfl (Nat.le_of_ble_eq_true rfl) (by omega) (kX13_spelt (d - 1) (by omega) (116 : Int32) (117 : Int32) (114 : Int32) (110 : Int32) (115 : Int32) (0 : Int32)  v11 ev11) ?_
    obtain rfl := Option.some.inj h
    exact r_lreturn dX13_wordOf_290 rfl hQ (Nat.le_refl _) (Nat.le_refl _)
  rcases if_split h with ⟨q9, h⟩ | ⟨n11, h⟩
  · refine r_table (11 : Int32) 290 291 dX13_wordOf_1 q9 (by decide) (by decide) rfl (by decide) ?_
    refine r_bipush (v := 119) dX13_wordOf_291 (by decide) ?_
    refine r_bipush (v := 97) dX13_wordOf_293 (by decide) ?_
    refine r_bipush (v := 107) dX13_wordOf_295 (by decide) ?_
    refine r_bipush (v := 101) dX13_wordOf_297 (by decide) ?_
    refine r_bipush (v := 115) dX13_wordOf_299 (by decide) ?_
    refine r_iconst (v := 0) dX13_wordOf_301 (by decide) ?_
    obtain ⟨v12, ev12, h⟩ := bd0_some h
    refine q_cSL [.int (119 : Int32), .int (97 : Int32), .int (107 : Int32), .int (101 : Int32), .int (115 : Int32), .int (0 : Int32)] dX13_wordOf_302 cs_X13_58 rfl rfl (Nat.le_of_ble_eq_true rfl) (by omega) (kX13_spelt (d - 1) (by omega) (119 : Int32) (97 : Int32) (107 : Int32) (101 : Int32) (115 : Int32) (0 : Int32)  v12 ev12) ?_
    obtain rfl := Option.some.inj h
    exact r_lreturn dX13_wordOf_305 rfl hQ (Nat.le_refl _) (Nat.le_refl _)
  rcases if_split h with ⟨q9, h⟩ | ⟨n12, h⟩
  · refine r_table (12 : Int32) 305 306 dX13_wordOf_1 q9 (by decide) (by decide) rfl (by decide) ?_
    refine r_bipush (v := 119) dX13_wordOf_306 (by decide) ?_
    refine r_bipush (v := 111) dX13_wordOf_308 (by decide) ?_
    refine r_bipush (v := 111) dX13_wordOf_310 (by decide) ?_
    refine r_bipush (v := 115) dX13_wordOf_312 (by decide) ?_
    refine r_iconst (v := 0) dX13_wordOf_314 (by decide) ?_
    refine r_iconst (v := 0) dX13_wordOf_315 (by decide) ?_
    obtain ⟨v13, ev13, h⟩ := bd0_some h
    refine q_cSL [.int (119 : Int32), .int (111 : Int32), .int (111 : Int32), .int (115 : Int32), .int (0 : Int32), .int (0 : Int32)] dX13_wordOf_316 cs_X13_58 rfl rfl (Nat.le_of_ble_eq_true rfl) (by omega) (kX13_spelt (d - 1) (by omega) (119 : Int32) (111 : Int32) (111 : Int32) (115 : Int32) (0 : Int32) (0 : Int32)  v13 ev13) ?_
    obtain rfl := Option.some.inj h
    exact r_lreturn dX13_wordOf_319 rfl hQ (Nat.le_refl _) (Nat.le_refl _)
  rcases if_split h with ⟨q9, h⟩ | ⟨n13, h⟩
  · refine r_table (13 : Int32) 319 320 dX13_wordOf_1 q9 (by decide) (by decide) rfl (by decide) ?_
    refine r_bipush (v := 116) dX13_wordOf_320 (by decide) ?_
    refine r_bipush (v := 105) dX13_wordOf_322 (by decide) ?_
    refine r_bipush (v := 108) dX13_wordOf_324 (by decide) ?_
    refine r_bipush (v := 116) dX13_wordOf_326 (by decide) ?_
    refine r_bipush (v := 115) dX13_wordOf_328 (by decide) ?_
    refine r_iconst (v := 0) dX13_wordOf_330 (by decide) ?_
    obtain ⟨v14, ev14, h⟩ := bd0_some h
    refine q_cSL [.int (116 : Int32), .int (105 : Int32), .int (108 : Int32), .int (116 : Int32), .int (115 : Int32), .int (0 : Int32)] dX13_wordOf_331 cs_X13_58 rfl rfl (Nat.le_of_ble_eq_true rfl) (by omega) (kX13_spelt (d - 1) (by omega) (116 : Int32) (105 : Int32) (108 : Int32) (116 : Int32) (115 : Int32) (0 : Int32)  v14 ev14) ?_
    obtain rfl := Option.some.inj h
    exact r_lreturn dX13_wordOf_334 rfl hQ (Nat.le_refl _) (Nat.le_refl _)
  rcases if_split h with ⟨q9, h⟩ | ⟨n14, h⟩
  · refine r_table (14 : Int32) 334 335 dX13_wordOf_1 q9 (by decide) (by decide) rfl (by decide) ?_
    refine r_bipush (v := 119) dX13_wordOf_335 (by decide) ?_
    refine r_bipush (v := 105) dX13_wordOf_337 (by decide) ?_
    refine r_bipush (v := 100) dX13_wordOf_339 (by decide) ?_
    refine r_bipush (v := 101) dX13_wordOf_341 (by decide) ?_
    refine r_bipush (v := 110) dX13_wordOf_343 (by decide) ?_
    refine r_bipush (v := 115) dX13_wordOf_345 (by decide) ?_
    obtain ⟨v15, ev15, h⟩ := bd0_some h
    refine q_cSL [.int (119 : Int32), .int (105 : Int32), .int (100 : Int32), .int (101 : Int32), .int (110 : Int32), .int (115 : Int32)] dX13_wordOf_347 cs_X13_58 rfl rfl (Nat.le_of_ble_eq_true rfl) (by omega) (kX13_spelt (d - 1) (by omega) (119 : Int32) (105 : Int32) (100 : Int32) (101 : Int32) (110 : Int32) (115 : Int32)  v15 ev15) ?_
    obtain rfl := Option.some.inj h
    exact r_lreturn dX13_wordOf_350 rfl hQ (Nat.le_refl _) (Nat.le_refl _)
  rcases if_split h with ⟨q9, h⟩ | ⟨n15, h⟩
  · refine r_table (15 : Int32) 350 351 dX13_wordOf_1 q9 (by decide) (by decide) rfl (by decide) ?_
    refine r_bipush (v := 115) dX13_wordOf_351 (by decide) ?_
    refine r_bipush (v := 112) dX13_wordOf_353 (by decide) ?_
    refine r_bipush (v := 105) dX13_wordOf_355 (by decide) ?_
    refine r_bipush (v := 108) dX13_wordOf_357 (by decide) ?_
    refine r_bipush (v := 108) dX13_wordOf_359 (by decide) ?_
    refine r_bipush (v := 115) dX13_wordOf_361 (by decide) ?_
    obtain ⟨v16, ev16, h⟩ := bd0_some h
    refine q_cSL [.int (115 : Int32), .int (112 : Int32), .int (105 : Int32), .int (108 : Int32), .int (108 : Int32), .int (115 : Int32)] dX13_wordOf_363 cs_X13_58 rfl rfl (Nat.le_of_ble_eq_true rfl) (by omega) (kX13_spelt (d - 1) (by omega) (115 : Int32) (112 : Int32) (105 : Int32) (108 : Int32) (108 : Int32) (115 : Int32)  v16 ev16) ?_
    obtain rfl := Option.some.inj h
    exact r_lreturn dX13_wordOf_366 rfl hQ (Nat.le_refl _) (Nat.le_refl _)
  rcases if_split h with ⟨q9, h⟩ | ⟨n16, h⟩
  · refine r_table (16 : Int32) 366 367 dX13_wordOf_1 q9 (by decide) (by decide) rfl (by decide) ?_
    refine r_bipush (v := 104) dX13_wordOf_367 (by decide) ?_
    refine r_bipush (v := 111) dX13_wordOf_369 (by decide) ?_
    refine r_bipush (v := 117) dX13_wordOf_371 (by decide) ?_
    refine r_bipush (v := 114) dX13_wordOf_373 (by decide) ?_
    refine r_iconst (v := 0) dX13_wordOf_375 (by decide) ?_
    refine r_iconst (v := 0) dX13_wordOf_376 (by decide) ?_
    obtain ⟨v17, ev17, h⟩ := bd0_some h
    refine q_cSL [.int (104 : Int32), .int (111 : Int32), .int (117 : Int32), .int (114 : Int32), .int (0 : Int32), .int (0 : Int32)] dX13_wordOf_377 cs_X13_58 rfl rfl (Nat.le_of_ble_eq_true rfl) (by omega) (kX13_spelt (d - 1) (by omega) (104 : Int32) (111 : Int32) (117 : Int32) (114 : Int32) (0 : Int32) (0 : Int32)  v17 ev17) ?_
    obtain rfl := Option.some.inj h
    exact r_lreturn dX13_wordOf_380 rfl hQ (Nat.le_refl _) (Nat.le_refl _)
  rcases if_split h with ⟨q9, h⟩ | ⟨n17, h⟩
  · refine r_table (17 : Int32) 380 381 dX13_wordOf_1 q9 (by decide) (by decide) rfl (by decide) ?_
    refine r_bipush (v := 111) dX13_wordOf_381 (by decide) ?_
    refine r_bipush (v := 114) dX13_wordOf_383 (by decide) ?_
    refine r_iconst (v := 0) dX13_wordOf_385 (by decide) ?_
    refine r_iconst (v := 0) dX13_wordOf_386 (by decide) ?_
    refine r_iconst (v := 0) dX13_wordOf_387 (by decide) ?_
    refine r_iconst (v := 0) dX13_wordOf_388 (by decide) ?_
    obtain ⟨v18, ev18, h⟩ := bd0_some h
    refine q_cSL [.int (111 : Int32), .int (114 : Int32), .int (0 : Int32), .int (0 : Int32), .int (0 : Int32), .int (0 : Int32)] dX13_wordOf_389 cs_X13_58 rfl rfl (Nat.le_of_ble_eq_true rfl) (by omega) (kX13_spelt (d - 1) (by omega) (111 : Int32) (114 : Int32) (0 : Int32) (0 : Int32) (0 : Int32) (0 : Int32)  v18 ev18) ?_
    obtain rfl := Option.some.inj h
    exact r_lreturn dX13_wordOf_392 rfl hQ (Nat.le_refl _) (Nat.le_refl _)
  rcases if_split h with ⟨q9, h⟩ | ⟨n18, h⟩
  · refine r_table (18 : Int32) 392 393 dX13_wordOf_1 q9 (by decide) (by decide) rfl (by decide) ?_
    refine r_bipush (v := 97) dX13_wordOf_393 (by decide) ?_
    refine r_bipush (v := 110) dX13_wordOf_395 (by decide) ?_
    refine r_bipush (v := 100) dX13_wordOf_397 (by decide) ?_
    refine r_iconst (v := 0) dX13_wordOf_399 (by decide) ?_
    refine r_iconst (v := 0) dX13_wordOf_400 (by decide) ?_
    refine r_iconst (v := 0) dX13_wordOf_401 (by decide) ?_
    obtain ⟨v19, ev19, h⟩ := bd0_some h
    refine q_cSL [.int (97 : Int32), .int (110 : Int32), .int (100 : Int32), .int (0 : Int32), .int (0 : Int32), .int (0 : Int32)] dX13_wordOf_402 cs_X13_58 rfl rfl (Nat.le_of_ble_eq_true rfl) (by omega) (kX13_spelt (d - 1) (by omega) (97 : Int32) (110 : Int32) (100 : Int32) (0 : Int32) (0 : Int32) (0 : Int32)  v19 ev19) ?_
    obtain rfl := Option.some.inj h
    exact r_lreturn dX13_wordOf_405 rfl hQ (Nat.le_refl _) (Nat.le_refl _)
  rcases if_split h with ⟨q9, h⟩ | ⟨n19, h⟩
  · refine r_table (19 : Int32) 405 406 dX13_wordOf_1 q9 (by decide) (by decide) rfl (by decide) ?_
    refine r_bipush (v := 110) dX13_wordOf_406 (by decide) ?_
    refine r_bipush (v := 111) dX13_wordOf_408 (by decide) ?_
    refine r_bipush (v := 116) dX13_wordOf_410 (by decide) ?_
    refine r_iconst (v := 0) dX13_wordOf_412 (by decide) ?_
    refine r_iconst (v := 0) dX13_wordOf_413 (by decide) ?_
    refine r_iconst (v := 0) dX13_wordOf_414 (by decide) ?_
    obtain ⟨v20, ev20, h⟩ := bd0_some h
    refine q_cSL [.int (110 : Int32), .int (111 : Int32), .int (116 : Int32), .int (0 : Int32), .int (0 : Int32), .int (0 : Int32)] dX13_wordOf_415 cs_X13_58 rfl rfl (Nat.le_of_ble_eq_true rfl) (by omega) (kX13_spelt (d - 1) (by omega) (110 : Int32) (111 : Int32) (116 : Int32) (0 : Int32) (0 : Int32) (0 : Int32)  v20 ev20) ?_
    obtain rfl := Option.some.inj h
    exact r_lreturn dX13_wordOf_418 rfl hQ (Nat.le_refl _) (Nat.le_refl _)
  rcases if_split h with ⟨q9, h⟩ | ⟨n20, h⟩
  · refine r_table (20 : Int32) 418 419 dX13_wordOf_1 q9 (by decide) (by decide) rfl (by decide) ?_
    refine r_bipush (v := 108) dX13_wordOf_419 (by decide) ?_
    refine r_bipush (v := 97) dX13_wordOf_421 (by decide) ?_
    refine r_bipush (v := 112) dX13_wordOf_423 (by decide) ?_
    refine r_bipush (v := 115) dX13_wordOf_425 (by decide) ?_
    refine r_bipush (v := 101) dX13_wordOf_427 (by decide) ?_
    refine r_bipush (v := 100) dX13_wordOf_429 (by decide) ?_
    obtain ⟨v21, ev21, h⟩ := bd0_some h
    refine q_cSL [.int (108 : Int32), .int (97 : Int32), .int (112 : Int32), .int (115 : Int32), .int (101 : Int32), .int (100 : Int32)] dX13_wordOf_431 cs_X13_58 rfl rfl (Nat.le_of_ble_eq_true rfl) (by omega) (kX13_spelt (d - 1) (by omega) (108 : Int32) (97 : Int32) (112 : Int32) (115 : Int32) (101 : Int32) (100 : Int32)  v21 ev21) ?_
    obtain rfl := Option.some.inj h
    exact r_lreturn dX13_wordOf_434 rfl hQ (Nat.le_refl _) (Nat.le_refl _)
  rcases if_split h with ⟨q9, h⟩ | ⟨n21, h⟩
  · refine r_table (21 : Int32) 434 435 dX13_wordOf_1 q9 (by decide) (by decide) rfl (by decide) ?_
    refine r_bipush (v := 114) dX13_wordOf_435 (by decide) ?_
    refine r_bipush (v := 117) dX13_wordOf_437 (by decide) ?_
    refine r_bipush (v := 110) dX13_wordOf_439 (by decide) ?_
    refine r_iconst (v := 0) dX13_wordOf_441 (by decide) ?_
    refine r_iconst (v := 0) dX13_wordOf_442 (by decide) ?_
    refine r_iconst (v := 0) dX13_wordOf_443 (by decide) ?_
    obtain ⟨v22, ev22, h⟩ := bd0_some h
    refine q_cSL [.int (114 : Int32), .int (117 : Int32), .int (110 : Int32), .int (0 : Int32), .int (0 : Int32), .int (0 : Int32)] dX13_wordOf_444 cs_X13_58 rfl rfl (Nat.le_of_ble_eq_true rfl) (by omega) (kX13_spelt (d - 1) (by omega) (114 : Int32) (117 : Int32) (110 : Int32) (0 : Int32) (0 : Int32) (0 : Int32)  v22 ev22) ?_
    obtain rfl := Option.some.inj h
    exact r_lreturn dX13_wordOf_447 rfl hQ (Nat.le_refl _) (Nat.le_refl _)
  rcases if_split h with ⟨q9, h⟩ | ⟨n22, h⟩
  · refine r_table (22 : Int32) 447 448 dX13_wordOf_1 q9 (by decide) (by decide) rfl (by decide) ?_
    refine r_bipush (v := 97) dX13_wordOf_448 (by decide) ?_
    refine r_bipush (v := 115) dX13_wordOf_450 (by decide) ?_
    refine r_bipush (v := 108) dX13_wordOf_452 (by decide) ?_
    refine r_bipush (v := 97) dX13_wordOf_454 (by decide) ?_
    refine r_bipush (v := 110) dX13_wordOf_456 (by decide) ?_
    refine r_bipush (v := 116) dX13_wordOf_458 (by decide) ?_
    obtain ⟨v23, ev23, h⟩ := bd0_some h
    refine q_cSL [.int (97 : Int32), .int (115 : Int32), .int (108 : Int32), .int (97 : Int32), .int (110 : Int32), .int (116 : Int32)] dX13_wordOf_460 cs_X13_58 rfl rfl (Nat.le_of_ble_eq_true rfl) (by omega) (kX13_spelt (d - 1) (by omega) (97 : Int32) (115 : Int32) (108 : Int32) (97 : Int32) (110 : Int32) (116 : Int32)  v23 ev23) ?_
    obtain rfl := Option.some.inj h
    exact r_lreturn dX13_wordOf_463 rfl hQ (Nat.le_refl _) (Nat.le_refl _)
  rcases if_split h with ⟨q9, h⟩ | ⟨n23, h⟩
  · refine r_table (23 : Int32) 463 464 dX13_wordOf_1 q9 (by decide) (by decide) rfl (by decide) ?_
    refine r_bipush (v := 98) dX13_wordOf_464 (by decide) ?_
    refine r_bipush (v := 111) dX13_wordOf_466 (by decide) ?_
    refine r_bipush (v := 116) dX13_wordOf_468 (by decide) ?_
    refine r_bipush (v := 104) dX13_wordOf_470 (by decide) ?_
    refine r_iconst (v := 0) dX13_wordOf_472 (by decide) ?_
    refine r_iconst (v := 0) dX13_wordOf_473 (by decide) ?_
    obtain ⟨v24, ev24, h⟩ := bd0_some h
    refine q_cSL [.int (98 : Int32), .int (111 : Int32), .int (116 : Int32), .int (104 : Int32), .int (0 : Int32), .int (0 : Int32)] dX13_wordOf_474 cs_X13_58 rfl rfl (Nat.le_of_ble_eq_true rfl) (by omega) (kX13_spelt (d - 1) (by omega) (98 : Int32) (111 : Int32) (116 : Int32) (104 : Int32) (0 : Int32) (0 : Int32)  v24 ev24) ?_
    obtain rfl := Option.some.inj h
    exact r_lreturn dX13_wordOf_477 rfl hQ (Nat.le_refl _) (Nat.le_refl _)
  rcases if_split h with ⟨q9, h⟩ | ⟨n24, h⟩
  · refine r_table (24 : Int32) 477 478 dX13_wordOf_1 q9 (by decide) (by decide) rfl (by decide) ?_
    refine r_bipush (v := 111) dX13_wordOf_478 (by decide) ?_
    refine r_bipush (v := 102) dX13_wordOf_480 (by decide) ?_
    refine r_iconst (v := 0) dX13_wordOf_482 (by decide) ?_
    refine r_iconst (v := 0) dX13_wordOf_483 (by decide) ?_
    refine r_iconst (v := 0) dX13_wordOf_484 (by decide) ?_
    refine r_iconst (v := 0) dX13_wordOf_485 (by decide) ?_
    obtain ⟨v25, ev25, h⟩ := bd0_some h
    refine q_cSL [.int (111 : Int32), .int (102 : Int32), .int (0 : Int32), .int (0 : Int32), .int (0 : Int32), .int (0 : Int32)] dX13_wordOf_486 cs_X13_58 rfl rfl (Nat.le_of_ble_eq_true rfl) (by omega) (kX13_spelt (d - 1) (by omega) (111 : Int32) (102 : Int32) (0 : Int32) (0 : Int32) (0 : Int32) (0 : Int32)  v25 ev25) ?_
    obtain rfl := Option.some.inj h
    exact r_lreturn dX13_wordOf_489 rfl hQ (Nat.le_refl _) (Nat.le_refl _)
  rcases if_split h with ⟨q9, h⟩ | ⟨n25, h⟩
  · refine r_table (25 : Int32) 489 490 dX13_wordOf_1 q9 (by decide) (by decide) rfl (by decide) ?_
    refine r_bipush (v := 108) dX13_wordOf_490 (by decide) ?_
    refine r_bipush (v := 101) dX13_wordOf_492 (by decide) ?_
    refine r_bipush (v := 102) dX13_wordOf_494 (by decide) ?_
    refine r_bipush (v := 116) dX13_wordOf_496 (by decide) ?_
    refine r_iconst (v := 0) dX13_wordOf_498 (by decide) ?_
    refine r_iconst (v := 0) dX13_wordOf_499 (by decide) ?_
    obtain ⟨v26, ev26, h⟩ := bd0_some h
    refine q_cSL [.int (108 : Int32), .int (101 : Int32), .int (102 : Int32), .int (116 : Int32), .int (0 : Int32), .int (0 : Int32)] dX13_wordOf_500 cs_X13_58 rfl rfl (Nat.le_of_ble_eq_true rfl) (by omega) (kX13_spelt (d - 1) (by omega) (108 : Int32) (101 : Int32) (102 : Int32) (116 : Int32) (0 : Int32) (0 : Int32)  v26 ev26) ?_
    obtain rfl := Option.some.inj h
    exact r_lreturn dX13_wordOf_503 rfl hQ (Nat.le_refl _) (Nat.le_refl _)
  rcases if_split h with ⟨q9, h⟩ | ⟨n26, h⟩
  · refine r_table (26 : Int32) 503 504 dX13_wordOf_1 q9 (by decide) (by decide) rfl (by decide) ?_
    refine r_bipush (v := 110) dX13_wordOf_504 (by decide) ?_
    refine r_bipush (v := 101) dX13_wordOf_506 (by decide) ?_
    refine r_bipush (v := 99) dX13_wordOf_508 (by decide) ?_
    refine r_bipush (v := 107) dX13_wordOf_510 (by decide) ?_
    refine r_iconst (v := 0) dX13_wordOf_512 (by decide) ?_
    refine r_iconst (v := 0) dX13_wordOf_513 (by decide) ?_
    obtain ⟨v27, ev27, h⟩ := bd0_some h
    refine q_cSL [.int (110 : Int32), .int (101 : Int32), .int (99 : Int32), .int (107 : Int32), .int (0 : Int32), .int (0 : Int32)] dX13_wordOf_514 cs_X13_58 rfl rfl (Nat.le_of_ble_eq_true rfl) (by omega) (kX13_spelt (d - 1) (by omega) (110 : Int32) (101 : Int32) (99 : Int32) (107 : Int32) (0 : Int32) (0 : Int32)  v27 ev27) ?_
    obtain rfl := Option.some.inj h
    exact r_lreturn dX13_wordOf_517 rfl hQ (Nat.le_refl _) (Nat.le_refl _)
  rcases if_split h with ⟨q9, h⟩ | ⟨n27, h⟩
  · refine r_table (27 : Int32) 517 518 dX13_wordOf_1 q9 (by decide) (by decide) rfl (by decide) ?_
    refine r_bipush (v := 116) dX13_wordOf_518 (by decide) ?_
    refine r_bipush (v := 117) dX13_wordOf_520 (by decide) ?_
    refine r_bipush (v := 114) dX13_wordOf_522 (by decide) ?_
    refine r_bipush (v := 110) dX13_wordOf_524 (by decide) ?_
    refine r_bipush (v := 101) dX13_wordOf_526 (by decide) ?_
    refine r_bipush (v := 100) dX13_wordOf_528 (by decide) ?_
    obtain ⟨v28, ev28, h⟩ := bd0_some h
    refine q_cSL [.int (116 : Int32), .int (117 : Int32), .int (114 : Int32), .int (110 : Int32), .int (101 : Int32), .int (100 : Int32)] dX13_wordOf_530 cs_X13_58 rfl rfl (Nat.le_of_ble_eq_true rfl) (by omega) (kX13_spelt (d - 1) (by omega) (116 : Int32) (117 : Int32) (114 : Int32) (110 : Int32) (101 : Int32) (100 : Int32)  v28 ev28) ?_
    obtain rfl := Option.some.inj h
    exact r_lreturn dX13_wordOf_533 rfl hQ (Nat.le_refl _) (Nat.le_refl _)
  have n0 := ne_int n0 (z := 0) rfl
  have n1 := ne_int n1 (z := 1) rfl
  have n2 := ne_int n2 (z := 2) rfl
  have n3 := ne_int n3 (z := 3) rfl
  have n4 := ne_int n4 (z := 4) rfl
  have n5 := ne_int n5 (z := 5) rfl
  have n6 := ne_int n6 (z := 6) rfl
  have n7 := ne_int n7 (z := 7) rfl
  have n8 := ne_int n8 (z := 8) rfl
  have n9 := ne_int n9 (z := 9) rfl
  have n10 := ne_int n10 (z := 10) rfl
  have n11 := ne_int n11 (z := 11) rfl
  have n12 := ne_int n12 (z := 12) rfl
  have n13 := ne_int n13 (z := 13) rfl
  have n14 := ne_int n14 (z := 14) rfl
  have n15 := ne_int n15 (z := 15) rfl
  have n16 := ne_int n16 (z := 16) rfl
  have n17 := ne_int n17 (z := 17) rfl
  have n18 := ne_int n18 (z := 18) rfl
  have n19 := ne_int n19 (z := 19) rfl
  have n20 := ne_int n20 (z := 20) rfl
  have n21 := ne_int n21 (z := 21) rfl
  have n22 := ne_int n22 (z := 22) rfl
  have n23 := ne_int n23 (z := 23) rfl
  have n24 := ne_int n24 (z := 24) rfl
  have n25 := ne_int n25 (z := 25) rfl
  have n26 := ne_int n26 (z := 26) rfl
  have n27 := ne_int n27 (z := 27) rfl
  refine r_tableD 534 dX13_wordOf_1 (by omega) (by decide) ?_
  refine r_bipush (v := 110) dX13_wordOf_534 (by decide) ?_
  refine r_bipush (v := 117) dX13_wordOf_536 (by decide) ?_
  refine r_bipush (v := 109) dX13_wordOf_538 (by decide) ?_
  refine r_bipush (v := 98) dX13_wordOf_540 (by decide) ?_
  refine r_bipush (v := 101) dX13_wordOf_542 (by decide) ?_
  refine r_bipush (v := 114) dX13_wordOf_544 (by decide) ?_
  obtain ⟨v29, ev29, h⟩ := bd0_some h
  refine q_cSL [.int (110 : Int32), .int (117 : Int32), .int (109 : Int32), .int (98 : Int32), .int (101 : Int32), .int (114 : Int32)] dX13_wordOf_546 cs_X13_58 rfl rfl (Nat.le_of_ble_eq_true rfl) (by omega) (kX13_spelt (d - 1) (by omega) (110 : Int32) (117 : Int32) (109 : Int32) (98 : Int32) (101 : Int32) (114 : Int32)  v29 ev29) ?_
  obtain rfl := Option.some.inj h
  exact r_lreturn dX13_wordOf_549 rfl hQ (Nat.le_refl _) (Nat.le_refl _)
theorem tX13_isWord_b25 {l : Launch} {G : gg} {Γ : ly} {d : Nat} {Q : Option Value → ly → mm → Prop} (hdd : 2 ≤ d) (σ : mm)  (s0 : Int32)   (r : Int32) (h : fX13_isWord_b25 Γ.2 σ s0 = some r) (hQ : Q (some (.int r)) Γ σ) : WP l G yX13_isWord cX13_isWord 2 (some .boolean) d 0 0 Q 0 0 25 [] [.int s0] Γ σ := by
  unfold fX13_isWord_b25 at h
  obtain ⟨hbz, h⟩ := rZ_some h
  obtain rfl := Option.some.inj h
  exact r_zreturn dX13_isWord_25 rfl hbz hQ (Nat.le_refl _) (Nat.le_refl _)
theorem tX13_isWord_b24 {l : Launch} {G : gg} {Γ : ly} {d : Nat} {Q : Option Value → ly → mm → Prop} (hdd : 2 ≤ d) (σ : mm)     (r : Int32) (h : fX13_isWord_b24 Γ.2 σ  = some r) (hQ : Q (some (.int r)) Γ σ) : WP l G yX13_isWord cX13_isWord 2 (some .boolean) d 0 0 Q 0 0 24 [] [] Γ σ := by
  unfold fX13_isWord_b24 at h
  refine r_iconst (v := 0) dX13_isWord_24 (by decide) ?_
  exact tX13_isWord_b25 hdd σ (0 : Int32)  _ h hQ
theorem kX13_isWord {l : Launch} {G : gg} {Γ : ly} {σ : mm} (d : Nat) (hdd : 2 ≤ d) (x0 : Nat) (x1 : Int32) (t0 : tyOK Γ (0, 12) x0) (r : Int32) (h : fX13_isWord Γ.2 σ x0 x1 = some r) : CT l G yX13_isWord cX13_isWord 2 (some .boolean) d 0 0 [.ref (G.2.1 x0), .int x1] Γ σ (PP (some (.int r)) Γ σ) := by
  refine CT.ofWP (by decide) (Nat.le_of_ble_eq_true rfl) ?_
  have hQ : PP (some (.int r)) Γ σ (some (.int r)) Γ σ := PP.self
  generalize PP (some (.int r)) Γ σ = Q at hQ ⊢
  show WP l G yX13_isWord cX13_isWord 2 (some .boolean) d 0 0 Q 0 0 0 [(0, .ref (G.2.1 x0)), (1, .int x1)] [] Γ σ
  unfold fX13_isWord at h
  refine r_aload_n 0 dX13_isWord_0 rfl ?_
  refine r_getI dX13_isWord_1 fd_X13_30 t0 ?_
  refine r_iconst (v := 2) dX13_isWord_4 (by decide) ?_
  refine r_icmp_ne 24 dX13_isWord_5 (by decide) h (fun _ h => ?_) (fun _ h => ?_)
  · refine r_pick [] rfl ?_
    exact tX13_isWord_b24 hdd σ  _ h hQ
  · refine r_aload_n 0 dX13_isWord_8 rfl ?_
    refine r_getL dX13_isWord_9 fd_X13_43 t0 ?_
    refine r_iload_n 1 dX13_isWord_12 rfl ?_
    obtain ⟨v1, ev1, h⟩ := bd0_some h
    refine q_cSL [.int x1] dX13_isWord_13 cs_X13_62 rfl rfl (Nat.le_of_ble_eq_true rfl) (by omega) (kX13_wordOf (d - 1) (by omega) x1  v1 ev1) ?_
    refine r_lcmp dX13_isWord_16 ?_
    refine r_if_ne 24 dX13_isWord_17 (by decide) h (fun _ h => ?_) (fun _ h => ?_)
    · refine r_pick [] rfl ?_
      exact tX13_isWord_b24 hdd σ  _ h hQ
    · refine r_iconst (v := 1) dX13_isWord_20 (by decide) ?_
      refine r_goto 25 dX13_isWord_21 (by decide) ?_
      refine r_pick [] rfl ?_
      exact tX13_isWord_b25 hdd σ (1 : Int32)  _ h hQ
theorem tX13_isSign_b21 {l : Launch} {G : gg} {Γ : ly} {d : Nat} {Q : Option Value → ly → mm → Prop} (hdd : 0 ≤ d) (σ : mm)  (s0 : Int32)   (r : Int32) (h : fX13_isSign_b21 Γ.2 σ s0 = some r) (hQ : Q (some (.int r)) Γ σ) : WP l G yX13_isSign cX13_isSign 2 (some .boolean) d 0 0 Q 0 0 21 [] [.int s0] Γ σ := by
  unfold fX13_isSign_b21 at h
  obtain ⟨hbz, h⟩ := rZ_some h
  obtain rfl := Option.some.inj h
  exact r_zreturn dX13_isSign_21 rfl hbz hQ (Nat.le_refl _) (Nat.le_refl _)
theorem tX13_isSign_b20 {l : Launch} {G : gg} {Γ : ly} {d : Nat} {Q : Option Value → ly → mm → Prop} (hdd : 0 ≤ d) (σ : mm)     (r : Int32) (h : fX13_isSign_b20 Γ.2 σ  = some r) (hQ : Q (some (.int r)) Γ σ) : WP l G yX13_isSign cX13_isSign 2 (some .boolean) d 0 0 Q 0 0 20 [] [] Γ σ := by
  unfold fX13_isSign_b20 at h
  refine r_iconst (v := 0) dX13_isSign_20 (by decide) ?_
  exact tX13_isSign_b21 hdd σ (0 : Int32)  _ h hQ
theorem kX13_isSign {l : Launch} {G : gg} {Γ : ly} {σ : mm} (d : Nat) (hdd : 0 ≤ d) (x0 : Nat) (x1 : Int32) (t0 : tyOK Γ (0, 12) x0) (r : Int32) (h : fX13_isSign Γ.2 σ x0 x1 = some r) : CT l G yX13_isSign cX13_isSign 2 (some .boolean) d 0 0 [.ref (G.2.1 x0), .int x1] Γ σ (PP (some (.int r)) Γ σ) := by
  refine CT.ofWP (by decide) (Nat.le_of_ble_eq_true rfl) ?_
  have hQ : PP (some (.int r)) Γ σ (some (.int r)) Γ σ := PP.self
  generalize PP (some (.int r)) Γ σ = Q at hQ ⊢
  show WP l G yX13_isSign cX13_isSign 2 (some .boolean) d 0 0 Q 0 0 0 [(0, .ref (G.2.1 x0)), (1, .int x1)] [] Γ σ
  unfold fX13_isSign at h
  refine r_aload_n 0 dX13_isSign_0 rfl ?_
  refine r_getI dX13_isSign_1 fd_X13_30 t0 ?_
  refine r_iconst (v := 4) dX13_isSign_4 (by decide) ?_
  refine r_icmp_ne 20 dX13_isSign_5 (by decide) h (fun _ h => ?_) (fun _ h => ?_)
  · refine r_pick [] rfl ?_
    exact tX13_isSign_b20 hdd σ  _ h hQ
  · refine r_aload_n 0 dX13_isSign_8 rfl ?_
    refine r_getI dX13_isSign_9 fd_X13_40 t0 ?_
    refine r_iload_n 1 dX13_isSign_12 rfl ?_
    refine r_icmp_ne 20 dX13_isSign_13 (by decide) h (fun _ h => ?_) (fun _ h => ?_)
    · refine r_pick [] rfl ?_
      exact tX13_isSign_b20 hdd σ  _ h hQ
    · refine r_iconst (v := 1) dX13_isSign_16 (by decide) ?_
      refine r_goto 21 dX13_isSign_17 (by decide) ?_
      refine r_pick [] rfl ?_
      exact tX13_isSign_b21 hdd σ (1 : Int32)  _ h hQ
theorem sX13_isName_L12 {l : Launch} {G : gg} {Γ : ly} {d : Nat} {Q : Option Value → ly → mm → Prop} (hdd : 2 ≤ d) (σ : mm) (x0 : Nat) (t0 : tyOK Γ (0, 12) x0) {K : (Unit ⊕ Unit) → Prop} (kx0 : K (.inl ()) → WP l G yX13_isName cX13_isName 2 (some .boolean) d 0 0 Q 0 0 30 [] [] Γ σ) (kx1 : K (.inr ()) → WP l G yX13_isName cX13_isName 2 (some .boolean) d 0 0 Q 0 0 38 [] [] Γ σ) : ∀ (N : Nat) (s : Int32) (b : (Unit ⊕ Unit)), loopN (fX13_isName_L12 Γ.2 σ x0) N s = some b → K b → WP l G yX13_isName cX13_isName 2 (some .boolean) d 0 0 Q 0 0 12 [(0, .ref (G.2.1 x0)), (1, .int s)] [] Γ σ := by
  refine r_loop (f := fX13_isName_L12 Γ.2 σ x0) (hlv := fun s => [(0, .ref (G.2.1 x0)), (1, .int s)]) (hsg := fun s => σ) ?_
  rintro x1 r h hb hx
  have hx0 : r = .inr (.inl ()) → WP l G yX13_isName cX13_isName 2 (some .boolean) d 0 0 Q 0 0 30 [] [] Γ σ := fun e => kx0  (hx _ e)
  have hx1 : r = .inr (.inr ()) → WP l G yX13_isName cX13_isName 2 (some .boolean) d 0 0 Q 0 0 38 [] [] Γ σ := fun e => kx1  (hx _ e)
  unfold fX13_isName_L12 at h
  show WP l G yX13_isName cX13_isName 2 (some .boolean) d 0 0 Q 0 0 12 [(0, .ref (G.2.1 x0)), (1, .int x1)] [] Γ σ
  refine r_iload_n 1 dX13_isName_12 rfl ?_
  refine r_bipush (v := 28) dX13_isName_13 (by decide) ?_
  refine r_icmp_gt 38 dX13_isName_15 (by decide) h (fun _ h => ?_) (fun _ h => ?_)
  · obtain rfl := Option.some.inj h
    refine r_pick [] rfl ?_
    exact hx1  rfl
  · refine r_aload_n 0 dX13_isName_18 rfl ?_
    refine r_getL dX13_isName_19 fd_X13_43 t0 ?_
    refine r_iload_n 1 dX13_isName_22 rfl ?_
    obtain ⟨v1, ev1, h⟩ := bd0_some h
    refine q_cSL [.int x1] dX13_isName_23 cs_X13_62 rfl rfl (Nat.le_of_ble_eq_true rfl) (by omega) (kX13_wordOf (d - 1) (by omega) x1  v1 ev1) ?_
    refine r_lcmp dX13_isName_26 ?_
    refine r_if_ne 32 dX13_isName_27 (by decide) h (fun _ h => ?_) (fun _ h => ?_)
    · refine q_iinc (v := 1) 1 (fun v2 => [(1, .int v2), (0, .ref (G.2.1 x0))]) dX13_isName_32 rfl (by decide) (by decide) (fun _ => rfl) h (fun v2 h => ?_)
      refine r_goto 12 dX13_isName_35 (by decide) ?_
      obtain rfl := Option.some.inj h
      refine r_pick [1, 0] rfl ?_
      exact hb _ rfl
    · obtain rfl := Option.some.inj h
      refine r_pick [] rfl ?_
      exact hx0  rfl
theorem kX13_isName {l : Launch} {G : gg} {Γ : ly} {σ : mm} (d : Nat) (hdd : 2 ≤ d) (x0 : Nat) (t0 : tyOK Γ (0, 12) x0) (r : Int32) (h : fX13_isName Γ.2 σ x0 = some r) : CT l G yX13_isName cX13_isName 2 (some .boolean) d 0 0 [.ref (G.2.1 x0)] Γ σ (PP (some (.int r)) Γ σ) := by
  refine CT.ofWP (by decide) (Nat.le_of_ble_eq_true rfl) ?_
  have hQ : PP (some (.int r)) Γ σ (some (.int r)) Γ σ := PP.self
  generalize PP (some (.int r)) Γ σ = Q at hQ ⊢
  show WP l G yX13_isName cX13_isName 2 (some .boolean) d 0 0 Q 0 0 0 [(0, .ref (G.2.1 x0))] [] Γ σ
  unfold fX13_isName at h
  refine r_aload_n 0 dX13_isName_0 rfl ?_
  refine r_getI dX13_isName_1 fd_X13_30 t0 ?_
  refine r_iconst (v := 2) dX13_isName_4 (by decide) ?_
  refine r_icmp_eq 10 dX13_isName_5 (by decide) h (fun _ h => ?_) (fun _ h => ?_)
  · refine r_iconst (v := 0) dX13_isName_10 (by decide) ?_
    refine r_istore_n (lv' := [(1, .int (0 : Int32)), (0, .ref (G.2.1 x0))]) dX13_isName_11 (by decide) rfl ?_
    obtain ⟨b1, eb1, h⟩ := bd0_some h
    refine r_pick [1, 0] rfl ?_
    refine sX13_isName_L12 hdd σ x0 t0 (K := fun b => b = b1) ?_ ?_ 1000 (0 : Int32) b1 eb1 rfl
    · rintro rfl
      have h := cs2_0 h
      refine r_iconst (v := 0) dX13_isName_30 (by decide) ?_
      obtain rfl := Option.some.inj h
      exact r_zreturn dX13_isName_31 rfl (by decide) hQ (Nat.le_refl _) (Nat.le_refl _)
    · rintro rfl
      have h := cs2_1 h
      refine r_iconst (v := 1) dX13_isName_38 (by decide) ?_
      obtain rfl := Option.some.inj h
      exact r_zreturn dX13_isName_39 rfl (by decide) hQ (Nat.le_refl _) (Nat.le_refl _)
  · refine r_iconst (v := 0) dX13_isName_8 (by decide) ?_
    obtain rfl := Option.some.inj h
    exact r_zreturn dX13_isName_9 rfl (by decide) hQ (Nat.le_refl _) (Nat.le_refl _)
theorem tX13_bad_b14 {l : Launch} {G : gg} {Γ : ly} {d : Nat} {Q : Option Value → ly → mm → Prop} (hdd : 0 ≤ d) (σ : mm) (x0 : Nat) (s0 : Nat) (s1 : Int32) (t0 : tyOK Γ (0, 12) x0) (u0 : tyOK Γ (0, 12) s0) (r : (Int32 × mm)) (h : fX13_bad_b14 Γ.2 σ x0 s0 s1 = some r) (hQ : Q (some (.int r.1)) Γ r.2) : WP l G yX13_bad cX13_bad 2 (some .boolean) d 0 0 Q 0 0 14 [(0, .ref (G.2.1 x0))] [.int s1, .ref (G.2.1 s0)] Γ σ := by
  unfold fX13_bad_b14 at h
  refine q_putI dX13_bad_14 fd_X13_66 u0 h (fun τ1 h => ?_)
  refine r_aload_n 0 dX13_bad_17 rfl ?_
  refine r_aload_n 0 dX13_bad_18 rfl ?_
  refine r_getI dX13_bad_19 fd_X13_24 t0 ?_
  refine q_putI dX13_bad_22 fd_X13_69 t0 h (fun τ2 h => ?_)
  refine r_iconst (v := 0) dX13_bad_25 (by decide) ?_
  obtain rfl := Option.some.inj h
  exact r_zreturn dX13_bad_26 rfl (by decide) hQ (Nat.le_refl _) (Nat.le_refl _)
theorem kX13_bad {l : Launch} {G : gg} {Γ : ly} {σ : mm} (d : Nat) (hdd : 0 ≤ d) (x0 : Nat) (x1 : Int32) (t0 : tyOK Γ (0, 12) x0) (r : (Int32 × mm)) (h : fX13_bad Γ.2 σ x0 x1 = some r) : CT l G yX13_bad cX13_bad 2 (some .boolean) d 0 0 [.ref (G.2.1 x0), .int x1] Γ σ (PP (some (.int r.1)) Γ r.2) := by
  refine CT.ofWP (by decide) (Nat.le_of_ble_eq_true rfl) ?_
  have hQ : PP (some (.int r.1)) Γ r.2 (some (.int r.1)) Γ r.2 := PP.self
  generalize PP (some (.int r.1)) Γ r.2 = Q at hQ ⊢
  show WP l G yX13_bad cX13_bad 2 (some .boolean) d 0 0 Q 0 0 0 [(0, .ref (G.2.1 x0)), (1, .int x1)] [] Γ σ
  unfold fX13_bad at h
  refine r_aload_n 0 dX13_bad_0 rfl ?_
  refine r_aload_n 0 dX13_bad_1 rfl ?_
  refine r_getI dX13_bad_2 fd_X13_30 t0 ?_
  refine r_iconst (v := 1) dX13_bad_5 (by decide) ?_
  refine r_icmp_ne 13 dX13_bad_6 (by decide) h (fun _ h => ?_) (fun _ h => ?_)
  · refine r_iload_n 1 dX13_bad_13 rfl ?_
    refine r_pick [0] rfl ?_
    exact tX13_bad_b14 hdd σ x0 x0 x1 t0 t0 _ h hQ
  · refine r_iconst (v := 1) dX13_bad_9 (by decide) ?_
    refine r_goto 14 dX13_bad_10 (by decide) ?_
    refine r_pick [0] rfl ?_
    exact tX13_bad_b14 hdd σ x0 x0 (1 : Int32) t0 t0 _ h hQ
theorem kX13_readNumber {l : Launch} {G : gg} {Γ : ly} {σ : mm} (d : Nat) (hdd : 2 ≤ d) (x0 : Nat) (x1 : Int32) (x2 : Int32) (t0 : tyOK Γ (0, 12) x0) (r : (Int32 × mm)) (h : fX13_readNumber Γ.2 σ x0 x1 x2 = some r) : CT l G yX13_readNumber cX13_readNumber 3 (some .boolean) d 0 0 [.ref (G.2.1 x0), .int x1, .int x2] Γ σ (PP (some (.int r.1)) Γ r.2) := by
  refine CT.ofWP (by decide) (Nat.le_of_ble_eq_true rfl) ?_
  have hQ : PP (some (.int r.1)) Γ r.2 (some (.int r.1)) Γ r.2 := PP.self
  generalize PP (some (.int r.1)) Γ r.2 = Q at hQ ⊢
  show WP l G yX13_readNumber cX13_readNumber 3 (some .boolean) d 0 0 Q 0 0 0 [(0, .ref (G.2.1 x0)), (1, .int x1), (2, .int x2)] [] Γ σ
  unfold fX13_readNumber at h
  refine r_aload_n 0 dX13_readNumber_0 rfl ?_
  refine r_getI dX13_readNumber_1 fd_X13_30 t0 ?_
  refine r_iconst (v := 3) dX13_readNumber_4 (by decide) ?_
  refine r_icmp_eq 14 dX13_readNumber_5 (by decide) h (fun _ h => ?_) (fun _ h => ?_)
  · refine r_aload_n 0 dX13_readNumber_14 rfl ?_
    refine r_getI dX13_readNumber_15 fd_X13_47 t0 ?_
    refine r_iload_n 1 dX13_readNumber_18 rfl ?_
    refine r_iload_n 2 dX13_readNumber_19 rfl ?_
    obtain ⟨v1, ev1, h⟩ := bd0_some h
    refine q_cSI [.int (σ.1 x0 8), .int x1, .int x2] dX13_readNumber_20 cs_X13_75 rfl rfl (Nat.le_of_ble_eq_true rfl) (by omega) (kX13_isIn (d - 1) (by omega) (σ.1 x0 8) x1 x2  v1 ev1) ?_
    refine r_if_ne 32 dX13_readNumber_23 (by decide) h (fun _ h => ?_) (fun _ h => ?_)
    · refine r_aload_n 0 dX13_readNumber_32 rfl ?_
      refine r_aload_n 0 dX13_readNumber_33 rfl ?_
      refine r_getI dX13_readNumber_34 fd_X13_47 t0 ?_
      refine q_putI dX13_readNumber_37 fd_X13_79 t0 h (fun τ2 h => ?_)
      refine r_aload_n 0 dX13_readNumber_40 rfl ?_
      obtain ⟨τ3, eτ3, h⟩ := bd0_some h
      refine q_cVV [] dX13_readNumber_41 cv_X13_82 (ci := 12) rfl rfl t0 rfl rfl (Nat.le_of_ble_eq_true rfl) (by omega) (kX13_go (d - 1) (by omega) x0 t0 τ3 eτ3) ?_
      refine r_iconst (v := 1) dX13_readNumber_44 (by decide) ?_
      obtain rfl := Option.some.inj h
      exact r_zreturn dX13_readNumber_45 rfl (by decide) hQ (Nat.le_refl _) (Nat.le_refl _)
    · refine r_aload_n 0 dX13_readNumber_26 rfl ?_
      refine r_iconst (v := 2) dX13_readNumber_27 (by decide) ?_
      obtain ⟨v4, τ5, ev4, h⟩ := bd2_some h
      refine q_cVI [.int (2 : Int32)] dX13_readNumber_28 cv_X13_72 (ci := 12) rfl rfl t0 rfl rfl (Nat.le_of_ble_eq_true rfl) (by omega) (kX13_bad (d - 1) (by omega) x0 (2 : Int32) t0 (v4, τ5) ev4) ?_
      obtain ⟨hbz, h⟩ := rZ_some h
      obtain rfl := Option.some.inj h
      exact r_zreturn dX13_readNumber_31 rfl hbz hQ (Nat.le_refl _) (Nat.le_refl _)
  · refine r_aload_n 0 dX13_readNumber_8 rfl ?_
    refine r_iconst (v := 1) dX13_readNumber_9 (by decide) ?_
    obtain ⟨v6, τ7, ev6, h⟩ := bd2_some h
    refine q_cVI [.int (1 : Int32)] dX13_readNumber_10 cv_X13_72 (ci := 12) rfl rfl t0 rfl rfl (Nat.le_of_ble_eq_true rfl) (by omega) (kX13_bad (d - 1) (by omega) x0 (1 : Int32) t0 (v6, τ7) ev6) ?_
    obtain ⟨hbz, h⟩ := rZ_some h
    obtain rfl := Option.some.inj h
    exact r_zreturn dX13_readNumber_13 rfl hbz hQ (Nat.le_refl _) (Nat.le_refl _)
theorem kX13_readEnd {l : Launch} {G : gg} {Γ : ly} {σ : mm} (d : Nat) (hdd : 2 ≤ d) (x0 : Nat) (t0 : tyOK Γ (0, 12) x0) (r : (Int32 × mm)) (h : fX13_readEnd Γ.2 σ x0 = some r) : CT l G yX13_readEnd cX13_readEnd 1 (some .boolean) d 0 0 [.ref (G.2.1 x0)] Γ σ (PP (some (.int r.1)) Γ r.2) := by
  refine CT.ofWP (by decide) (Nat.le_of_ble_eq_true rfl) ?_
  have hQ : PP (some (.int r.1)) Γ r.2 (some (.int r.1)) Γ r.2 := PP.self
  generalize PP (some (.int r.1)) Γ r.2 = Q at hQ ⊢
  show WP l G yX13_readEnd cX13_readEnd 1 (some .boolean) d 0 0 Q 0 0 0 [(0, .ref (G.2.1 x0))] [] Γ σ
  unfold fX13_readEnd at h
  refine r_aload_n 0 dX13_readEnd_0 rfl ?_
  refine r_bipush (v := 59) dX13_readEnd_1 (by decide) ?_
  obtain ⟨v1, ev1, h⟩ := bd0_some h
  refine q_cVI [.int (59 : Int32)] dX13_readEnd_3 cv_X13_86 (ci := 12) rfl rfl t0 rfl rfl (Nat.le_of_ble_eq_true rfl) (by omega) (kX13_isSign (d - 1) (by omega) x0 (59 : Int32) t0 v1 ev1) ?_
  refine r_if_ne 15 dX13_readEnd_6 (by decide) h (fun _ h => ?_) (fun _ h => ?_)
  · refine r_aload_n 0 dX13_readEnd_15 rfl ?_
    obtain ⟨τ2, eτ2, h⟩ := bd0_some h
    refine q_cVV [] dX13_readEnd_16 cv_X13_82 (ci := 12) rfl rfl t0 rfl rfl (Nat.le_of_ble_eq_true rfl) (by omega) (kX13_go (d - 1) (by omega) x0 t0 τ2 eτ2) ?_
    refine r_iconst (v := 1) dX13_readEnd_19 (by decide) ?_
    obtain rfl := Option.some.inj h
    exact r_zreturn dX13_readEnd_20 rfl (by decide) hQ (Nat.le_refl _) (Nat.le_refl _)
  · refine r_aload_n 0 dX13_readEnd_9 rfl ?_
    refine r_iconst (v := 1) dX13_readEnd_10 (by decide) ?_
    obtain ⟨v3, τ4, ev3, h⟩ := bd2_some h
    refine q_cVI [.int (1 : Int32)] dX13_readEnd_11 cv_X13_72 (ci := 12) rfl rfl t0 rfl rfl (Nat.le_of_ble_eq_true rfl) (by omega) (kX13_bad (d - 1) (by omega) x0 (1 : Int32) t0 (v3, τ4) ev3) ?_
    obtain ⟨hbz, h⟩ := rZ_some h
    obtain rfl := Option.some.inj h
    exact r_zreturn dX13_readEnd_14 rfl hbz hQ (Nat.le_refl _) (Nat.le_refl _)
theorem kX13_begin {l : Launch} {G : gg} {Γ : ly} {σ : mm} (d : Nat) (hdd : 2 ≤ d) (x0 : Nat) (x1 : Int32) (t0 : tyOK Γ (0, 12) x0) (r : mm) (h : fX13_begin Γ.2 σ x0 x1 = some r) : CT l G yX13_begin cX13_begin 2 (none) d 0 0 [.ref (G.2.1 x0), .int x1] Γ σ (PP none Γ r) := by
  refine CT.ofWP (by decide) (Nat.le_of_ble_eq_true rfl) ?_
  have hQ : PP none Γ r none Γ r := PP.self
  generalize PP none Γ r = Q at hQ ⊢
  show WP l G yX13_begin cX13_begin 2 (none) d 0 0 Q 0 0 0 [(0, .ref (G.2.1 x0)), (1, .int x1)] [] Γ σ
  unfold fX13_begin at h
  refine r_aload_n 0 dX13_begin_0 rfl ?_
  refine r_iconst (v := 0) dX13_begin_1 (by decide) ?_
  refine q_putI dX13_begin_2 fd_X13_1 t0 h (fun τ1 h => ?_)
  refine r_aload_n 0 dX13_begin_5 rfl ?_
  refine r_aload_n 0 dX13_begin_6 rfl ?_
  obtain ⟨v2, τ3, ev2, h⟩ := bd2_some h
  refine q_cVI [] dX13_begin_7 cv_X13_89 (ci := 12) rfl rfl t0 rfl rfl (Nat.le_of_ble_eq_true rfl) (by omega) (kX13_take (d - 1) (by omega) x0 t0 (v2, τ3) ev2) ?_
  refine q_putI dX13_begin_10 fd_X13_18 t0 h (fun τ4 h => ?_)
  refine r_aload_n 0 dX13_begin_13 rfl ?_
  refine r_iload_n 1 dX13_begin_14 rfl ?_
  refine q_putI dX13_begin_15 fd_X13_27 t0 h (fun τ5 h => ?_)
  refine r_aload_n 0 dX13_begin_18 rfl ?_
  refine r_iconst (v := 0) dX13_begin_19 (by decide) ?_
  refine q_putI dX13_begin_20 fd_X13_66 t0 h (fun τ6 h => ?_)
  refine r_aload_n 0 dX13_begin_23 rfl ?_
  refine r_iconst (v := 0) dX13_begin_24 (by decide) ?_
  refine q_putI dX13_begin_25 fd_X13_21 t0 h (fun τ7 h => ?_)
  refine r_aload_n 0 dX13_begin_28 rfl ?_
  obtain ⟨τ8, eτ8, h⟩ := bd0_some h
  refine q_cVV [] dX13_begin_29 cv_X13_82 (ci := 12) rfl rfl t0 rfl rfl (Nat.le_of_ble_eq_true rfl) (by omega) (kX13_go (d - 1) (by omega) x0 t0 τ8 eτ8) ?_
  obtain rfl := Option.some.inj h
  exact r_return dX13_begin_32 rfl hQ (Nat.le_refl _) (Nat.le_refl _)
theorem sX13_startRead_L2 {l : Launch} {G : gg} {Γ : ly} {d : Nat} {Q : Option Value → ly → mm → Prop} (hdd : 0 ≤ d) (x0 : Nat) (t0 : tyOK Γ (0, 12) x0) {K : mm → Prop} (kx0 : ∀ (σ9 : mm), K σ9 → WP l G yX13_startRead cX13_startRead 2 (none) d 0 0 Q 0 0 21 [(0, .ref (G.2.1 x0))] [] Γ σ9) : ∀ (N : Nat) (s : (Int32 × mm)) (b : mm), loopN (fX13_startRead_L2 Γ.2 x0) N s = some b → K b → WP l G yX13_startRead cX13_startRead 2 (none) d 0 0 Q 0 0 2 [(0, .ref (G.2.1 x0)), (1, .int s.1)] [] Γ s.2 := by
  refine r_loop (f := fX13_startRead_L2 Γ.2 x0) (hlv := fun s => [(0, .ref (G.2.1 x0)), (1, .int s.1)]) (hsg := fun s => s.2) ?_
  rintro ⟨x1, σ⟩ r h hb hx
  have hb : ∀ (x1 : Int32) (σ : mm), r = .inl (x1, σ) → WP l G yX13_startRead cX13_startRead 2 (none) d 0 0 Q 0 0 2 [(0, .ref (G.2.1 x0)), (1, .int x1)] [] Γ σ := fun x1 σ e => hb (x1, σ) e
  have hx0 : ∀ (σ9 : mm), r = .inr σ9 → WP l G yX13_startRead cX13_startRead 2 (none) d 0 0 Q 0 0 21 [(0, .ref (G.2.1 x0))] [] Γ σ9 := fun σ9 e => kx0 σ9 (hx _ e)
  unfold fX13_startRead_L2 at h
  have h := un2_some h
  show WP l G yX13_startRead cX13_startRead 2 (none) d 0 0 Q 0 0 2 [(0, .ref (G.2.1 x0)), (1, .int x1)] [] Γ σ
  refine r_iload_n 1 dX13_startRead_2 rfl ?_
  refine r_bipush (v := 102) dX13_startRead_3 (by decide) ?_
  refine r_icmp_ge 21 dX13_startRead_5 (by decide) h (fun _ h => ?_) (fun _ h => ?_)
  · obtain rfl := Option.some.inj h
    refine r_pick [0] rfl ?_
    exact hx0 _ rfl
  · refine r_aload_n 0 dX13_startRead_8 rfl ?_
    refine q_getR (e9 := (1, 0)) dX13_startRead_9 fd_X13_101 t0 rfl h (fun r1 tr1 h => ?_)
    refine r_iload_n 1 dX13_startRead_12 rfl ?_
    refine r_iconst (v := 0) dX13_startRead_13 (by decide) ?_
    refine q_iast dX13_startRead_14 tr1 h (fun τ2 h => ?_)
    refine q_iinc (v := 1) 1 (fun v3 => [(1, .int v3), (0, .ref (G.2.1 x0))]) dX13_startRead_15 rfl (by decide) (by decide) (fun _ => rfl) h (fun v3 h => ?_)
    refine r_goto 2 dX13_startRead_18 (by decide) ?_
    obtain rfl := Option.some.inj h
    refine r_pick [1, 0] rfl ?_
    exact hb _ _ rfl
theorem sX13_startRead_L23 {l : Launch} {G : gg} {Γ : ly} {d : Nat} {Q : Option Value → ly → mm → Prop} (hdd : 0 ≤ d) (x0 : Nat) (t0 : tyOK Γ (0, 12) x0) {K : mm → Prop} (kx0 : ∀ (σ9 : mm), K σ9 → WP l G yX13_startRead cX13_startRead 2 (none) d 0 0 Q 0 0 45 [(0, .ref (G.2.1 x0))] [] Γ σ9) : ∀ (N : Nat) (s : (Int32 × mm)) (b : mm), loopN (fX13_startRead_L23 Γ.2 x0) N s = some b → K b → WP l G yX13_startRead cX13_startRead 2 (none) d 0 0 Q 0 0 23 [(0, .ref (G.2.1 x0)), (1, .int s.1)] [] Γ s.2 := by
  refine r_loop (f := fX13_startRead_L23 Γ.2 x0) (hlv := fun s => [(0, .ref (G.2.1 x0)), (1, .int s.1)]) (hsg := fun s => s.2) ?_
  rintro ⟨x1, σ⟩ r h hb hx
  have hb : ∀ (x1 : Int32) (σ : mm), r = .inl (x1, σ) → WP l G yX13_startRead cX13_startRead 2 (none) d 0 0 Q 0 0 23 [(0, .ref (G.2.1 x0)), (1, .int x1)] [] Γ σ := fun x1 σ e => hb (x1, σ) e
  have hx0 : ∀ (σ9 : mm), r = .inr σ9 → WP l G yX13_startRead cX13_startRead 2 (none) d 0 0 Q 0 0 45 [(0, .ref (G.2.1 x0))] [] Γ σ9 := fun σ9 e => kx0 σ9 (hx _ e)
  unfold fX13_startRead_L23 at h
  have h := un2_some h
  show WP l G yX13_startRead cX13_startRead 2 (none) d 0 0 Q 0 0 23 [(0, .ref (G.2.1 x0)), (1, .int x1)] [] Γ σ
  refine r_iload_n 1 dX13_startRead_23 rfl ?_
  refine r_bipush (v := 8) dX13_startRead_24 (by decide) ?_
  refine r_icmp_ge 45 dX13_startRead_26 (by decide) h (fun _ h => ?_) (fun _ h => ?_)
  · obtain rfl := Option.some.inj h
    refine r_pick [0] rfl ?_
    exact hx0 _ rfl
  · refine r_aload_n 0 dX13_startRead_29 rfl ?_
    refine q_getR (e9 := (1, 0)) dX13_startRead_30 fd_X13_101 t0 rfl h (fun r1 tr1 h => ?_)
    refine r_bipush (v := 48) dX13_startRead_33 (by decide) ?_
    refine r_iload_n 1 dX13_startRead_35 rfl ?_
    refine r_iadd dX13_startRead_36 ?_
    refine r_iconst (v := -1) dX13_startRead_37 (by decide) ?_
    refine q_iast dX13_startRead_38 tr1 h (fun τ2 h => ?_)
    refine q_iinc (v := 1) 1 (fun v3 => [(1, .int v3), (0, .ref (G.2.1 x0))]) dX13_startRead_39 rfl (by decide) (by decide) (fun _ => rfl) h (fun v3 h => ?_)
    refine r_goto 23 dX13_startRead_42 (by decide) ?_
    obtain rfl := Option.some.inj h
    refine r_pick [1, 0] rfl ?_
    exact hb _ _ rfl
theorem kX13_startRead {l : Launch} {G : gg} {Γ : ly} {σ : mm} (d : Nat) (hdd : 0 ≤ d) (x0 : Nat) (t0 : tyOK Γ (0, 12) x0) (r : mm) (h : fX13_startRead Γ.2 σ x0 = some r) : CT l G yX13_startRead cX13_startRead 2 (none) d 0 0 [.ref (G.2.1 x0)] Γ σ (PP none Γ r) := by
  refine CT.ofWP (by decide) (Nat.le_of_ble_eq_true rfl) ?_
  have hQ : PP none Γ r none Γ r := PP.self
  generalize PP none Γ r = Q at hQ ⊢
  show WP l G yX13_startRead cX13_startRead 2 (none) d 0 0 Q 0 0 0 [(0, .ref (G.2.1 x0))] [] Γ σ
  unfold fX13_startRead at h
  refine r_iconst (v := 0) dX13_startRead_0 (by decide) ?_
  refine r_istore_n (lv' := [(1, .int (0 : Int32)), (0, .ref (G.2.1 x0))]) dX13_startRead_1 (by decide) rfl ?_
  obtain ⟨b1, eb1, h⟩ := bd0_some h
  refine r_pick [1, 0] rfl ?_
  refine sX13_startRead_L2 hdd x0 t0 (K := fun b => b = b1) ?_ 1000 ((0 : Int32), σ) b1 eb1 rfl
  rintro τ2 rfl
  refine r_iconst (v := 0) dX13_startRead_21 (by decide) ?_
  refine r_istore_n (lv' := [(1, .int (0 : Int32)), (0, .ref (G.2.1 x0))]) dX13_startRead_22 (by decide) rfl ?_
  obtain ⟨b3, eb3, h⟩ := bd0_some h
  refine r_pick [1, 0] rfl ?_
  refine sX13_startRead_L23 hdd x0 t0 (K := fun b => b = b3) ?_ 1000 ((0 : Int32), τ2) b3 eb3 rfl
  rintro τ4 rfl
  refine r_aload_n 0 dX13_startRead_45 rfl ?_
  refine q_getR (e9 := (1, 0)) dX13_startRead_46 fd_X13_101 t0 rfl h (fun r5 tr5 h => ?_)
  refine r_iconst (v := 3) dX13_startRead_49 (by decide) ?_
  refine r_iconst (v := 2) dX13_startRead_50 (by decide) ?_
  refine q_iast dX13_startRead_51 tr5 h (fun τ6 h => ?_)
  refine r_aload_n 0 dX13_startRead_52 rfl ?_
  refine q_getR (e9 := (1, 0)) dX13_startRead_53 fd_X13_101 t0 rfl h (fun r7 tr7 h => ?_)
  refine r_iconst (v := 4) dX13_startRead_56 (by decide) ?_
  refine r_bipush (v := 50) dX13_startRead_57 (by decide) ?_
  refine q_iast dX13_startRead_59 tr7 h (fun τ8 h => ?_)
  obtain rfl := Option.some.inj h
  exact r_return dX13_startRead_60 rfl hQ (Nat.le_refl _) (Nat.le_refl _)
