def shLC : List (Nat × Nat) := [(68, 8), (69, 8), (70, 8), (71, 8), (72, 8), (73, 8), (74, 4), (75, 4), (76, 4), (77, 4), (78, 4), (79, 12), (81, 6), (82, 6), (83, 6), (84, 6), (86, 8), (87, 8), (88, 8), (89, 8), (90, 8), (91, 8), (92, 4), (93, 4), (94, 4), (95, 4), (96, 4), (97, 12), (99, 6), (100, 6), (101, 6), (102, 6), (212, 8), (213, 8), (214, 8), (215, 8), (216, 8), (217, 8), (218, 4), (219, 4), (220, 4), (221, 4), (222, 4), (223, 12), (225, 6), (226, 6), (227, 6), (228, 6), (242, 8), (243, 8), (244, 8), (245, 8), (246, 8), (247, 8), (248, 4), (249, 4), (250, 4), (251, 4), (252, 4), (253, 12), (255, 6), (256, 6), (257, 6), (258, 6), (105, 8), (106, 8), (107, 4), (108, 4), (109, 4), (110, 4), (111, 4), (113, 8), (114, 8), (115, 4), (116, 4), (117, 4), (118, 4), (119, 4), (123, 8), (124, 8), (125, 4), (126, 4), (127, 4), (128, 4), (129, 4), (131, 8), (132, 8), (133, 4), (134, 4), (135, 4), (136, 4), (137, 4), (139, 8), (140, 8), (141, 4), (142, 4), (143, 4), (144, 4), (145, 4), (147, 8), (148, 8), (149, 4), (150, 4), (151, 4), (152, 4), (153, 4), (155, 8), (156, 8), (157, 4), (158, 4), (159, 4), (160, 4), (161, 4), (163, 8), (164, 8), (165, 4), (166, 4), (167, 4), (168, 4), (169, 4), (171, 8), (172, 8), (173, 4), (174, 4), (175, 4), (176, 4), (177, 4), (179, 8), (180, 8), (181, 4), (182, 4), (183, 4), (184, 4), (185, 4), (230, 8), (231, 8), (232, 4), (233, 4), (234, 4), (235, 4), (236, 4), (260, 8), (261, 8), (262, 4), (263, 4), (264, 4), (265, 4), (266, 4), (66, 940), (187, 600), (188, 600), (190, 540), (191, 60), (192, 60), (194, 40), (195, 40), (196, 40), (198, 40), (199, 40), (200, 40), (202, 40), (203, 40), (204, 40), (205, 2), (206, 2), (207, 2), (208, 2), (238, 40), (239, 40), (240, 40), (268, 40), (269, 40), (270, 40), (121, 8)]
def rfLC : List (Nat × Nat × Nat) := [(67, 0, 68), (67, 1, 69), (67, 2, 70), (67, 3, 71), (67, 4, 72), (67, 5, 73), (67, 7, 74), (67, 8, 75), (67, 9, 76), (67, 10, 77), (67, 11, 78), (67, 13, 79), (67, 15, 80), (80, 0, 81), (80, 1, 82), (80, 2, 83), (80, 3, 84), (85, 0, 86), (85, 1, 87), (85, 2, 88), (85, 3, 89), (85, 4, 90), (85, 5, 91), (85, 7, 92), (85, 8, 93), (85, 9, 94), (85, 10, 95), (85, 11, 96), (85, 13, 97), (85, 15, 98), (98, 0, 99), (98, 1, 100), (98, 2, 101), (98, 3, 102), (211, 0, 212), (211, 1, 213), (211, 2, 214), (211, 3, 215), (211, 4, 216), (211, 5, 217), (211, 7, 218), (211, 8, 219), (211, 9, 220), (211, 10, 221), (211, 11, 222), (211, 13, 223), (211, 15, 224), (224, 0, 225), (224, 1, 226), (224, 2, 227), (224, 3, 228), (241, 0, 242), (241, 1, 243), (241, 2, 244), (241, 3, 245), (241, 4, 246), (241, 5, 247), (241, 7, 248), (241, 8, 249), (241, 9, 250), (241, 10, 251), (241, 11, 252), (241, 13, 253), (241, 15, 254), (254, 0, 255), (254, 1, 256), (254, 2, 257), (254, 3, 258), (104, 0, 67), (104, 4, 105), (104, 5, 106), (104, 6, 107), (104, 7, 108), (104, 8, 109), (104, 9, 110), (104, 10, 111), (112, 0, 67), (112, 4, 113), (112, 5, 114), (112, 6, 115), (112, 7, 116), (112, 8, 117), (112, 9, 118), (112, 10, 119), (122, 0, 67), (122, 4, 123), (122, 5, 124), (122, 6, 125), (122, 7, 126), (122, 8, 127), (122, 9, 128), (122, 10, 129), (130, 0, 67), (130, 4, 131), (130, 5, 132), (130, 6, 133), (130, 7, 134), (130, 8, 135), (130, 9, 136), (130, 10, 137), (138, 0, 67), (138, 4, 139), (138, 5, 140), (138, 6, 141), (138, 7, 142), (138, 8, 143), (138, 9, 144), (138, 10, 145), (146, 0, 67), (146, 4, 147), (146, 5, 148), (146, 6, 149), (146, 7, 150), (146, 8, 151), (146, 9, 152), (146, 10, 153), (154, 0, 67), (154, 4, 155), (154, 5, 156), (154, 6, 157), (154, 7, 158), (154, 8, 159), (154, 9, 160), (154, 10, 161), (162, 0, 67), (162, 4, 163), (162, 5, 164), (162, 6, 165), (162, 7, 166), (162, 8, 167), (162, 9, 168), (162, 10, 169), (170, 0, 67), (170, 4, 171), (170, 5, 172), (170, 6, 173), (170, 7, 174), (170, 8, 175), (170, 9, 176), (170, 10, 177), (178, 0, 67), (178, 4, 179), (178, 5, 180), (178, 6, 181), (178, 7, 182), (178, 8, 183), (178, 9, 184), (178, 10, 185), (229, 0, 67), (229, 4, 230), (229, 5, 231), (229, 6, 232), (229, 7, 233), (229, 8, 234), (229, 9, 235), (229, 10, 236), (259, 0, 67), (259, 4, 260), (259, 5, 261), (259, 6, 262), (259, 7, 263), (259, 8, 264), (259, 9, 265), (259, 10, 266), (64, 0, 65), (64, 1, 67), (64, 2, 85), (64, 3, 103), (64, 4, 104), (64, 5, 112), (64, 6, 120), (64, 7, 186), (64, 8, 189), (64, 9, 193), (64, 10, 197), (64, 11, 201), (64, 12, 205), (64, 13, 206), (64, 14, 207), (64, 15, 208), (65, 0, 66), (103, 0, 65), (103, 1, 85), (120, 0, 121), (186, 0, 67), (186, 1, 104), (186, 2, 187), (186, 3, 188), (189, 0, 186), (189, 1, 190), (189, 2, 191), (189, 3, 192), (193, 0, 65), (193, 1, 67), (193, 2, 194), (193, 3, 195), (193, 4, 196), (197, 0, 198), (197, 1, 199), (197, 2, 200), (201, 0, 202), (201, 1, 203), (201, 2, 204), (205, 0, 211), (205, 1, 241), (206, 0, 229), (206, 1, 259), (207, 0, 237), (207, 1, 267), (237, 0, 238), (237, 1, 239), (237, 2, 240), (267, 0, 268), (267, 1, 269), (267, 2, 270), (64, 16, 209), (121, 0, 122), (121, 1, 130), (121, 2, 138), (121, 3, 146), (121, 4, 154), (121, 5, 162), (121, 6, 170), (121, 7, 178)]
def iLC : List (Nat × Nat × Int32) := [(65, 1, 0), (67, 6, 0), (67, 12, 0), (80, 4, 0), (67, 16, 2), (67, 17, 50), (67, 18, 0), (67, 19, 0), (67, 14, 0), (104, 1, 0), (104, 2, 0), (104, 3, 0), (120, 1, 0), (64, 17, 0), (189, 4, 0), (193, 6, 0), (197, 4, 0), (208, 0, 0), (208, 1, 0)]
def shLM : List (Nat × Nat) := [(65, 940), (66, 383), (67, 102), (68, 766), (69, 312), (70, 39), (71, 18), (72, 18), (73, 36), (74, 2), (75, 4), (76, 15921), (77, 60), (78, 64), (79, 120), (80, 4), (81, 240)]
def rfLM : List (Nat × Nat × Nat) := [(64, 1, 65), (64, 14, 66), (64, 15, 67), (64, 16, 68), (64, 17, 69), (64, 18, 70), (64, 19, 71), (64, 20, 72), (64, 21, 73), (64, 22, 74), (64, 25, 75), (64, 26, 76), (64, 27, 77), (64, 31, 78), (64, 34, 79), (64, 35, 80), (64, 38, 81)]
def iLM : List (Nat × Nat × Int32) := [(64, 2, 0), (64, 23, 0), (64, 10, 0), (64, 28, 0), (64, 37, 0), (64, 32, 0), (74, 0, 0), (74, 1, 0)]
def ckS (Γ : ly) (l : List (Nat × Nat)) : Bool := l.all fun t => decide ((Γ.2 t.1).2 = t.2)
def ckR (σ : mm) (l : List (Nat × Nat × Nat)) : Bool := l.all fun t => decide (σ.2.2 t.1 t.2.1 = some t.2.2)
def ckI (σ : mm) (l : List (Nat × Nat × Int32)) : Bool := l.all fun t => decide (σ.1 t.1 t.2.1 = t.2.2)
def ckW0 (σ : mm) (a : Nat) : Bool := (List.range 40).all fun i => decide (σ.2.2 a i = some 0)
def nv0 (j : Nat) : Int32 := if j = 3 then 2 else if j = 4 then 50 else if 48 ≤ j ∧ j < 56 then -1 else 0
def ckN (σ : mm) : Bool := (List.range 383).all fun j => decide (σ.1 66 j = nv0 j)
def chkC (Γ : ly) (σ : mm) : Bool := ckS Γ shLC && ckR σ rfLC && ckI σ iLC && ckW0 σ 198 && ckW0 σ 202 && ckW0 σ 238 && ckW0 σ 268
def chkM (Γ : ly) (σ : mm) : Bool := ckS Γ shLM && ckR σ rfLM && ckI σ iLM && ckN σ
def okC (o : Option (ly × mm)) : Bool := match o with
  | none => false
  | some r => chkC r.1 r.2
def okM (o : Option (ly × mm)) : Bool := match o with
  | none => false
  | some r => chkM r.1 r.2
set_option maxRecDepth 100000 in
theorem start_C : okC (fX12_init (grow L0 (0, 11)) (zc S0 64) 64) = true := by decide +kernel
set_option maxRecDepth 100000 in
theorem start_M : okM (fX13_init (grow L0 (0, 12)) (zc S0 64) 64) = true := by decide +kernel
theorem all_at {α : Type} {l : List α} {p : α → Bool} (h : l.all p = true) {x : α} (hx : x ∈ l) : p x = true := List.all_eq_true.1 h x hx
theorem SC_of {Γ : ly} (h : ckS Γ shLC = true) : SCok Γ.2 := by
  have H : ∀ a n, (a, n) ∈ shLC → (Γ.2 a).2 = n := fun a n hm => of_decide_eq_true (all_at h hm)
  refine ⟨fun x hx => ?_, fun l hl => ?_, H 66 940 (by decide), H 187 600 (by decide), H 188 600 (by decide), H 190 540 (by decide), H 191 60 (by decide), H 192 60 (by decide), H 194 40 (by decide), H 195 40 (by decide), H 196 40 (by decide), H 198 40 (by decide), H 199 40 (by decide), H 200 40 (by decide), H 202 40 (by decide), H 203 40 (by decide), H 204 40 (by decide), H 205 2 (by decide), H 206 2 (by decide), H 207 2 (by decide), H 208 2 (by decide), H 238 40 (by decide), H 239 40 (by decide), H 240 40 (by decide), H 268 40 (by decide), H 269 40 (by decide), H 270 40 (by decide), H 121 8 (by decide)⟩
  · rcases hx with e | e | e | e <;> subst e
    · exact ⟨H 68 8 (by decide), H 69 8 (by decide), H 70 8 (by decide), H 71 8 (by decide), H 72 8 (by decide), H 73 8 (by decide), H 74 4 (by decide), H 75 4 (by decide), H 76 4 (by decide), H 77 4 (by decide), H 78 4 (by decide), H 79 12 (by decide), H 81 6 (by decide), H 82 6 (by decide), H 83 6 (by decide), H 84 6 (by decide)⟩
    · exact ⟨H 86 8 (by decide), H 87 8 (by decide), H 88 8 (by decide), H 89 8 (by decide), H 90 8 (by decide), H 91 8 (by decide), H 92 4 (by decide), H 93 4 (by decide), H 94 4 (by decide), H 95 4 (by decide), H 96 4 (by decide), H 97 12 (by decide), H 99 6 (by decide), H 100 6 (by decide), H 101 6 (by decide), H 102 6 (by decide)⟩
    · exact ⟨H 212 8 (by decide), H 213 8 (by decide), H 214 8 (by decide), H 215 8 (by decide), H 216 8 (by decide), H 217 8 (by decide), H 218 4 (by decide), H 219 4 (by decide), H 220 4 (by decide), H 221 4 (by decide), H 222 4 (by decide), H 223 12 (by decide), H 225 6 (by decide), H 226 6 (by decide), H 227 6 (by decide), H 228 6 (by decide)⟩
    · exact ⟨H 242 8 (by decide), H 243 8 (by decide), H 244 8 (by decide), H 245 8 (by decide), H 246 8 (by decide), H 247 8 (by decide), H 248 4 (by decide), H 249 4 (by decide), H 250 4 (by decide), H 251 4 (by decide), H 252 4 (by decide), H 253 12 (by decide), H 255 6 (by decide), H 256 6 (by decide), H 257 6 (by decide), H 258 6 (by decide)⟩
  · rcases hl with e | e | e | e | e | e | e | e | e | e | e | e <;> subst e
    · exact ⟨H 105 8 (by decide), H 106 8 (by decide), H 107 4 (by decide), H 108 4 (by decide), H 109 4 (by decide), H 110 4 (by decide), H 111 4 (by decide)⟩
    · exact ⟨H 113 8 (by decide), H 114 8 (by decide), H 115 4 (by decide), H 116 4 (by decide), H 117 4 (by decide), H 118 4 (by decide), H 119 4 (by decide)⟩
    · exact ⟨H 123 8 (by decide), H 124 8 (by decide), H 125 4 (by decide), H 126 4 (by decide), H 127 4 (by decide), H 128 4 (by decide), H 129 4 (by decide)⟩
    · exact ⟨H 131 8 (by decide), H 132 8 (by decide), H 133 4 (by decide), H 134 4 (by decide), H 135 4 (by decide), H 136 4 (by decide), H 137 4 (by decide)⟩
    · exact ⟨H 139 8 (by decide), H 140 8 (by decide), H 141 4 (by decide), H 142 4 (by decide), H 143 4 (by decide), H 144 4 (by decide), H 145 4 (by decide)⟩
    · exact ⟨H 147 8 (by decide), H 148 8 (by decide), H 149 4 (by decide), H 150 4 (by decide), H 151 4 (by decide), H 152 4 (by decide), H 153 4 (by decide)⟩
    · exact ⟨H 155 8 (by decide), H 156 8 (by decide), H 157 4 (by decide), H 158 4 (by decide), H 159 4 (by decide), H 160 4 (by decide), H 161 4 (by decide)⟩
    · exact ⟨H 163 8 (by decide), H 164 8 (by decide), H 165 4 (by decide), H 166 4 (by decide), H 167 4 (by decide), H 168 4 (by decide), H 169 4 (by decide)⟩
    · exact ⟨H 171 8 (by decide), H 172 8 (by decide), H 173 4 (by decide), H 174 4 (by decide), H 175 4 (by decide), H 176 4 (by decide), H 177 4 (by decide)⟩
    · exact ⟨H 179 8 (by decide), H 180 8 (by decide), H 181 4 (by decide), H 182 4 (by decide), H 183 4 (by decide), H 184 4 (by decide), H 185 4 (by decide)⟩
    · exact ⟨H 230 8 (by decide), H 231 8 (by decide), H 232 4 (by decide), H 233 4 (by decide), H 234 4 (by decide), H 235 4 (by decide), H 236 4 (by decide)⟩
    · exact ⟨H 260 8 (by decide), H 261 8 (by decide), H 262 4 (by decide), H 263 4 (by decide), H 264 4 (by decide), H 265 4 (by decide), H 266 4 (by decide)⟩
theorem RC_of {σ : mm} (h : ckR σ rfLC = true) : RCok σ.2.2 ∧ (∀ i, i < 8 → σ.2.2 121 i = some (122 + 8 * i)) := by
  have H : ∀ a j b, (a, j, b) ∈ rfLC → σ.2.2 a j = some b := fun a j b hm => of_decide_eq_true (all_at h hm)
  refine ⟨⟨fun x hx => ?_, fun l hl => ?_, H 64 0 65 (by decide), H 64 1 67 (by decide), H 64 2 85 (by decide), H 64 3 103 (by decide), H 64 4 104 (by decide), H 64 5 112 (by decide), H 64 6 120 (by decide), H 64 7 186 (by decide), H 64 8 189 (by decide), H 64 9 193 (by decide), H 64 10 197 (by decide), H 64 11 201 (by decide), H 64 12 205 (by decide), H 64 13 206 (by decide), H 64 14 207 (by decide), H 64 15 208 (by decide), H 65 0 66 (by decide), H 103 0 65 (by decide), H 103 1 85 (by decide), H 120 0 121 (by decide), H 186 0 67 (by decide), H 186 1 104 (by decide), H 186 2 187 (by decide), H 186 3 188 (by decide), H 189 0 186 (by decide), H 189 1 190 (by decide), H 189 2 191 (by decide), H 189 3 192 (by decide), H 193 0 65 (by decide), H 193 1 67 (by decide), H 193 2 194 (by decide), H 193 3 195 (by decide), H 193 4 196 (by decide), H 197 0 198 (by decide), H 197 1 199 (by decide), H 197 2 200 (by decide), H 201 0 202 (by decide), H 201 1 203 (by decide), H 201 2 204 (by decide), H 205 0 211 (by decide), H 205 1 241 (by decide), H 206 0 229 (by decide), H 206 1 259 (by decide), H 207 0 237 (by decide), H 207 1 267 (by decide), H 237 0 238 (by decide), H 237 1 239 (by decide), H 237 2 240 (by decide), H 267 0 268 (by decide), H 267 1 269 (by decide), H 267 2 270 (by decide), H 64 16 209 (by decide)⟩, fun i hi => ?_⟩
  · rcases hx with e | e | e | e <;> subst e
    · exact ⟨H 67 0 68 (by decide), H 67 1 69 (by decide), H 67 2 70 (by decide), H 67 3 71 (by decide), H 67 4 72 (by decide), H 67 5 73 (by decide), H 67 7 74 (by decide), H 67 8 75 (by decide), H 67 9 76 (by decide), H 67 10 77 (by decide), H 67 11 78 (by decide), H 67 13 79 (by decide), H 67 15 80 (by decide), H 80 0 81 (by decide), H 80 1 82 (by decide), H 80 2 83 (by decide), H 80 3 84 (by decide)⟩
    · exact ⟨H 85 0 86 (by decide), H 85 1 87 (by decide), H 85 2 88 (by decide), H 85 3 89 (by decide), H 85 4 90 (by decide), H 85 5 91 (by decide), H 85 7 92 (by decide), H 85 8 93 (by decide), H 85 9 94 (by decide), H 85 10 95 (by decide), H 85 11 96 (by decide), H 85 13 97 (by decide), H 85 15 98 (by decide), H 98 0 99 (by decide), H 98 1 100 (by decide), H 98 2 101 (by decide), H 98 3 102 (by decide)⟩
    · exact ⟨H 211 0 212 (by decide), H 211 1 213 (by decide), H 211 2 214 (by decide), H 211 3 215 (by decide), H 211 4 216 (by decide), H 211 5 217 (by decide), H 211 7 218 (by decide), H 211 8 219 (by decide), H 211 9 220 (by decide), H 211 10 221 (by decide), H 211 11 222 (by decide), H 211 13 223 (by decide), H 211 15 224 (by decide), H 224 0 225 (by decide), H 224 1 226 (by decide), H 224 2 227 (by decide), H 224 3 228 (by decide)⟩
    · exact ⟨H 241 0 242 (by decide), H 241 1 243 (by decide), H 241 2 244 (by decide), H 241 3 245 (by decide), H 241 4 246 (by decide), H 241 5 247 (by decide), H 241 7 248 (by decide), H 241 8 249 (by decide), H 241 9 250 (by decide), H 241 10 251 (by decide), H 241 11 252 (by decide), H 241 13 253 (by decide), H 241 15 254 (by decide), H 254 0 255 (by decide), H 254 1 256 (by decide), H 254 2 257 (by decide), H 254 3 258 (by decide)⟩
  · rcases hl with e | e | e | e | e | e | e | e | e | e | e | e <;> subst e
    · exact ⟨H 104 0 67 (by decide), H 104 4 105 (by decide), H 104 5 106 (by decide), H 104 6 107 (by decide), H 104 7 108 (by decide), H 104 8 109 (by decide), H 104 9 110 (by decide), H 104 10 111 (by decide)⟩
    · exact ⟨H 112 0 67 (by decide), H 112 4 113 (by decide), H 112 5 114 (by decide), H 112 6 115 (by decide), H 112 7 116 (by decide), H 112 8 117 (by decide), H 112 9 118 (by decide), H 112 10 119 (by decide)⟩
    · exact ⟨H 122 0 67 (by decide), H 122 4 123 (by decide), H 122 5 124 (by decide), H 122 6 125 (by decide), H 122 7 126 (by decide), H 122 8 127 (by decide), H 122 9 128 (by decide), H 122 10 129 (by decide)⟩
    · exact ⟨H 130 0 67 (by decide), H 130 4 131 (by decide), H 130 5 132 (by decide), H 130 6 133 (by decide), H 130 7 134 (by decide), H 130 8 135 (by decide), H 130 9 136 (by decide), H 130 10 137 (by decide)⟩
    · exact ⟨H 138 0 67 (by decide), H 138 4 139 (by decide), H 138 5 140 (by decide), H 138 6 141 (by decide), H 138 7 142 (by decide), H 138 8 143 (by decide), H 138 9 144 (by decide), H 138 10 145 (by decide)⟩
    · exact ⟨H 146 0 67 (by decide), H 146 4 147 (by decide), H 146 5 148 (by decide), H 146 6 149 (by decide), H 146 7 150 (by decide), H 146 8 151 (by decide), H 146 9 152 (by decide), H 146 10 153 (by decide)⟩
    · exact ⟨H 154 0 67 (by decide), H 154 4 155 (by decide), H 154 5 156 (by decide), H 154 6 157 (by decide), H 154 7 158 (by decide), H 154 8 159 (by decide), H 154 9 160 (by decide), H 154 10 161 (by decide)⟩
    · exact ⟨H 162 0 67 (by decide), H 162 4 163 (by decide), H 162 5 164 (by decide), H 162 6 165 (by decide), H 162 7 166 (by decide), H 162 8 167 (by decide), H 162 9 168 (by decide), H 162 10 169 (by decide)⟩
    · exact ⟨H 170 0 67 (by decide), H 170 4 171 (by decide), H 170 5 172 (by decide), H 170 6 173 (by decide), H 170 7 174 (by decide), H 170 8 175 (by decide), H 170 9 176 (by decide), H 170 10 177 (by decide)⟩
    · exact ⟨H 178 0 67 (by decide), H 178 4 179 (by decide), H 178 5 180 (by decide), H 178 6 181 (by decide), H 178 7 182 (by decide), H 178 8 183 (by decide), H 178 9 184 (by decide), H 178 10 185 (by decide)⟩
    · exact ⟨H 229 0 67 (by decide), H 229 4 230 (by decide), H 229 5 231 (by decide), H 229 6 232 (by decide), H 229 7 233 (by decide), H 229 8 234 (by decide), H 229 9 235 (by decide), H 229 10 236 (by decide)⟩
    · exact ⟨H 259 0 67 (by decide), H 259 4 260 (by decide), H 259 5 261 (by decide), H 259 6 262 (by decide), H 259 7 263 (by decide), H 259 8 264 (by decide), H 259 9 265 (by decide), H 259 10 266 (by decide)⟩
  · have : i = 0 ∨ i = 1 ∨ i = 2 ∨ i = 3 ∨ i = 4 ∨ i = 5 ∨ i = 6 ∨ i = 7 := by omega
    rcases this with e | e | e | e | e | e | e | e <;> subst e
    · exact H 121 0 122 (by decide)
    · exact H 121 1 130 (by decide)
    · exact H 121 2 138 (by decide)
    · exact H 121 3 146 (by decide)
    · exact H 121 4 154 (by decide)
    · exact H 121 5 162 (by decide)
    · exact H 121 6 170 (by decide)
    · exact H 121 7 178 (by decide)
theorem SM_of {Γ : ly} (h : ckS Γ shLM = true) : SMok Γ.2 := by
  have H : ∀ a n, (a, n) ∈ shLM → (Γ.2 a).2 = n := fun a n hm => of_decide_eq_true (all_at h hm)
  exact ⟨H 65 940 (by decide), H 66 383 (by decide), H 67 102 (by decide), H 68 766 (by decide), H 69 312 (by decide), H 70 39 (by decide), H 71 18 (by decide), H 72 18 (by decide), H 73 36 (by decide), H 74 2 (by decide), H 75 4 (by decide), H 76 15921 (by decide), H 77 60 (by decide), H 78 64 (by decide), H 79 120 (by decide), H 80 4 (by decide), H 81 240 (by decide)⟩
theorem RM_of {σ : mm} (h : ckR σ rfLM = true) : RMok σ.2.2 := by
  have H : ∀ a j b, (a, j, b) ∈ rfLM → σ.2.2 a j = some b := fun a j b hm => of_decide_eq_true (all_at h hm)
  exact ⟨H 64 1 65 (by decide), H 64 14 66 (by decide), H 64 15 67 (by decide), H 64 16 68 (by decide), H 64 17 69 (by decide), H 64 18 70 (by decide), H 64 19 71 (by decide), H 64 20 72 (by decide), H 64 21 73 (by decide), H 64 22 74 (by decide), H 64 25 75 (by decide), H 64 26 76 (by decide), H 64 27 77 (by decide), H 64 31 78 (by decide), H 64 34 79 (by decide), H 64 35 80 (by decide), H 64 38 81 (by decide)⟩
def unI (σ : mm) : Nat → Int → Int := fun a z => (σ.1 a z.toNat).toInt
theorem un_mk (σ : mm) : σ = mk (unI σ) σ.2.1 σ.2.2 := by
  have : σ.1 = fun (a j : Nat) => I (unI σ a (j : Int)) := by
    funext a j
    unfold unI
    rw [Int.toNat_natCast, I_of]
  show (σ.1, σ.2.1, σ.2.2) = (fun (a j : Nat) => I (unI σ a (j : Int)), σ.2.1, σ.2.2)
  rw [← this]
theorem start_sim {ΓC ΓM : ly} {σC σM : mm} (hC : chkC ΓC σC = true) (hM : chkM ΓM σM = true) : SCok ΓC.2 ∧ SMok ΓM.2 ∧ SimX (0, fun _ => 0) σC σM := by
  unfold chkC at hC
  unfold chkM at hM
  simp only [Bool.and_eq_true] at hC hM
  obtain ⟨⟨⟨⟨⟨⟨c1, c2⟩, c3⟩, c4⟩, c5⟩, c6⟩, c7⟩ := hC
  obtain ⟨⟨⟨m1, m2⟩, m3⟩, m4⟩ := hM
  have hS := SC_of c1
  have hS' := SM_of m1
  obtain ⟨hr, hu⟩ := RC_of c2
  have hr' := RM_of m2
  have HC : ∀ a j v, (a, j, v) ∈ iLC → σC.1 a j = v := fun a j v hm => of_decide_eq_true (all_at c3 hm)
  have HM : ∀ a j v, (a, j, v) ∈ iLM → σM.1 a j = v := fun a j v hm => of_decide_eq_true (all_at m3 hm)
  have WD : ∀ a, ckW0 σC a = true → senW (σC.2.2 a) := fun a h i hi => ⟨0, of_decide_eq_true (all_at h (List.mem_range.2 hi)), by omega⟩
  generalize hQ : unI σC = Q
  generalize hR : unI σM = R
  have qC : ∀ a (j : Nat) (v : Int32), (a, j, v) ∈ iLC → Q a (j : Int) = v.toInt := fun a j v hm => by
    rw [← hQ]
    show (σC.1 a ((j : Int)).toNat).toInt = _
    rw [Int.toNat_natCast, HC a j v hm]
  have qM : ∀ a (j : Nat) (v : Int32), (a, j, v) ∈ iLM → R a (j : Int) = v.toInt := fun a j v hm => by
    rw [← hR]
    show (σM.1 a ((j : Int)).toNat).toInt = _
    rw [Int.toNat_natCast, HM a j v hm]
  have q65_1 : Q 65 1 = 0 := qC 65 1 0 (by decide)
  have q67_6 : Q 67 6 = 0 := qC 67 6 0 (by decide)
  have q67_12 : Q 67 12 = 0 := qC 67 12 0 (by decide)
  have q80_4 : Q 80 4 = 0 := qC 80 4 0 (by decide)
  have q67_16 : Q 67 16 = 2 := qC 67 16 2 (by decide)
  have q67_17 : Q 67 17 = 50 := qC 67 17 50 (by decide)
  have q67_18 : Q 67 18 = 0 := qC 67 18 0 (by decide)
  have q67_19 : Q 67 19 = 0 := qC 67 19 0 (by decide)
  have q67_14 : Q 67 14 = 0 := qC 67 14 0 (by decide)
  have q104_1 : Q 104 1 = 0 := qC 104 1 0 (by decide)
  have q104_2 : Q 104 2 = 0 := qC 104 2 0 (by decide)
  have q104_3 : Q 104 3 = 0 := qC 104 3 0 (by decide)
  have q120_1 : Q 120 1 = 0 := qC 120 1 0 (by decide)
  have q64_17 : Q 64 17 = 0 := qC 64 17 0 (by decide)
  have q189_4 : Q 189 4 = 0 := qC 189 4 0 (by decide)
  have q193_6 : Q 193 6 = 0 := qC 193 6 0 (by decide)
  have q197_4 : Q 197 4 = 0 := qC 197 4 0 (by decide)
  have q208_0 : Q 208 0 = 0 := qC 208 0 0 (by decide)
  have q208_1 : Q 208 1 = 0 := qC 208 1 0 (by decide)
  have r64_2 : R 64 2 = 0 := qM 64 2 0 (by decide)
  have r64_23 : R 64 23 = 0 := qM 64 23 0 (by decide)
  have r64_10 : R 64 10 = 0 := qM 64 10 0 (by decide)
  have r64_28 : R 64 28 = 0 := qM 64 28 0 (by decide)
  have r64_37 : R 64 37 = 0 := qM 64 37 0 (by decide)
  have r64_32 : R 64 32 = 0 := qM 64 32 0 (by decide)
  have r74_0 : R 74 0 = 0 := qM 74 0 0 (by decide)
  have r74_1 : R 74 1 = 0 := qM 74 1 0 (by decide)
  have rN : ∀ j : Nat, j < 383 → R 66 (j : Int) = (nv0 j).toInt := fun j hj => by
    rw [← hR]
    show (σM.1 66 ((j : Int)).toNat).toInt = _
    rw [Int.toNat_natCast, show σM.1 66 j = nv0 j from of_decide_eq_true (all_at m4 (List.mem_range.2 hj))]
  have agw : AgW (stA (srA (fun _ => 0))) (R 66) := by
    intro j hj
    obtain ⟨k, rfl⟩ : ∃ k : Nat, j = k := ⟨j.toNat, by omega⟩
    rw [rN k (by omega)]
    unfold nv0
    by_cases h3 : k = 3
    · rw [if_pos h3, h3, stA_lo (by omega)]
      exact sr_3.symm
    rw [if_neg h3]
    by_cases h4 : k = 4
    · rw [if_pos h4, h4, stA_lo (by omega)]
      exact sr_4.symm
    rw [if_neg h4]
    by_cases h48 : 48 ≤ k ∧ k < 56
    · rw [if_pos h48, stA_lo (by omega)]
      have e : (k : Int) = 48 + ((k : Int) - 48) := by omega
      rw [e, sr_48 (by omega)]
      rfl
    rw [if_neg h48]
    by_cases hlo : k < 102
    · rw [stA_lo (by omega), sr_z (by omega) (by omega) (by omega) (by omega)]
      rfl
    · by_cases h1 : 105 ≤ k ∧ k < 113
      · have e : (k : Int) = 105 + ((k : Int) - 105) := by omega
        rw [e, stA_105 (by omega), sr_z (by omega) (by omega) (by omega) (by omega)]
        rfl
      · by_cases h2 : 121 ≤ k ∧ k < 125
        · have e : (k : Int) = 121 + ((k : Int) - 121) := by omega
          rw [e, stA_121 (by omega), sr_z (by omega) (by omega) (by omega) (by omega)]
          rfl
        · by_cases h5 : 125 ≤ k ∧ k < 129
          · have e : (k : Int) = 125 + ((k : Int) - 125) := by omega
            rw [e, stA_125 (by omega), sr_z (by omega) (by omega) (by omega) (by omega)]
            rfl
          · rw [stA_z (by omega) (by omega) (by omega)]
            rfl
  have wfs := (WFP_sr (N := fun _ => 0)).1
  have wf0 := WFP_st wfs
  have lo0 := LOK_st wfs
  have rz : ∀ j : Nat, j < 383 → nv0 j = 0 → R 66 (j : Int) = 0 := fun j h1 h2 => by rw [rN j h1, h2]; rfl
  have z0 : R 66 0 = 0 := rz 0 (by omega) rfl
  have z1 : R 66 1 = 0 := rz 1 (by omega) rfl
  have z2 : R 66 2 = 0 := rz 2 (by omega) rfl
  have z5 : R 66 5 = 0 := rz 5 (by omega) rfl
  have z6 : R 66 6 = 0 := rz 6 (by omega) rfl
  have z7 : R 66 7 = 0 := rz 7 (by omega) rfl
  have z3 : R 66 3 = 2 := rN 3 (by omega)
  have z4 : R 66 4 = 50 := rN 4 (by omega)
  have z102 : R 66 102 = 0 := rz 102 (by omega) rfl
  have z103 : R 66 103 = 0 := rz 103 (by omega) rfl
  have z104 : R 66 104 = 0 := rz 104 (by omega) rfl
  have z141 : R 66 141 = 0 := rz 141 (by omega) rfl
  have cC := un_mk σC
  have cM := un_mk σM
  rw [hQ] at cC
  rw [hR] at cM
  refine ⟨hS, hS', Q, σC.2.1, σC.2.2, R, σM.2.1, σM.2.2, cC, cM, hr, hr', ⟨?_, ⟨WFP_w wf0 agw, ?_, ?_⟩, ⟨LOK_w lo0 (by rw [stA_lo (by omega)]; have := wfs.2.1; omega) agw, ?_⟩, ?_, ?_, ?_, ?_, ?_, ?_, ⟨WD _ c4, WD _ c5, WD _ c6, WD _ c7⟩⟩, ?_⟩
  · exact ⟨by omega, by omega, fun i h1 h2 => by omega⟩
  · exact ⟨⟨by omega, by omega, by show Q 80 4 = _; omega, by omega, by omega, by omega, by omega, by omega⟩, fun p h1 h2 => by omega, fun p h1 h2 => by omega, fun p h1 h2 => by omega, fun p h1 h2 => by omega⟩
  · exact ⟨fun p hp => by omega, fun p hp => by omega, fun p hp => by omega⟩
  · exact ⟨⟨by omega, by omega, by omega⟩, fun p h1 h2 => by omega, fun p h1 h2 => by omega⟩
  · rw [r64_23]
    exact ⟨q120_1, by omega, fun i => 122 + 8 * i, fun i hi => ⟨hu i hi, by show isUndo (122 + 8 * i); unfold isUndo; omega⟩, fun i j _ _ h => by have h2 : 122 + 8 * i = 122 + 8 * j := h; omega, fun i hi => by omega⟩
  · omega
  · exact ⟨by omega, by omega, fun i h1 h2 => by omega⟩
  · exact ⟨by omega, Or.inl r64_37, fun h => by omega⟩
  · exact Or.inl ⟨z141, q197_4⟩
  · intro k hk
    have : k = 0 ∨ k = 1 := by omega
    rcases this with h | h <;> subst h
    · exact ⟨⟨by show Q 208 0 = R 74 0; omega, Or.inl r74_0⟩, fun h => by have : R 74 0 = 1 := h; omega⟩
    · exact ⟨⟨by show Q 208 1 = R 74 1; omega, Or.inl r74_1⟩, fun h => by have : R 74 1 = 1 := h; omega⟩
  · exact ⟨r64_32, by omega, fun i h1 h2 => by omega⟩
