theorem shC66 {S : Nat → Nat × Nat} (hS : SCok S) : (S 66).2 = 940 := hS.2.2.1
theorem shC187 {S : Nat → Nat × Nat} (hS : SCok S) : (S 187).2 = 600 := hS.2.2.2.1
theorem shC188 {S : Nat → Nat × Nat} (hS : SCok S) : (S 188).2 = 600 := hS.2.2.2.2.1
theorem shC190 {S : Nat → Nat × Nat} (hS : SCok S) : (S 190).2 = 540 := hS.2.2.2.2.2.1
theorem shC191 {S : Nat → Nat × Nat} (hS : SCok S) : (S 191).2 = 60 := hS.2.2.2.2.2.2.1
theorem shC192 {S : Nat → Nat × Nat} (hS : SCok S) : (S 192).2 = 60 := hS.2.2.2.2.2.2.2.1
theorem shC194 {S : Nat → Nat × Nat} (hS : SCok S) : (S 194).2 = 40 := hS.2.2.2.2.2.2.2.2.1
theorem shC195 {S : Nat → Nat × Nat} (hS : SCok S) : (S 195).2 = 40 := hS.2.2.2.2.2.2.2.2.2.1
theorem shC196 {S : Nat → Nat × Nat} (hS : SCok S) : (S 196).2 = 40 := hS.2.2.2.2.2.2.2.2.2.2.1
theorem shC198 {S : Nat → Nat × Nat} (hS : SCok S) : (S 198).2 = 40 := hS.2.2.2.2.2.2.2.2.2.2.2.1
theorem shC199 {S : Nat → Nat × Nat} (hS : SCok S) : (S 199).2 = 40 := hS.2.2.2.2.2.2.2.2.2.2.2.2.1
theorem shC200 {S : Nat → Nat × Nat} (hS : SCok S) : (S 200).2 = 40 := hS.2.2.2.2.2.2.2.2.2.2.2.2.2.1
theorem shC202 {S : Nat → Nat × Nat} (hS : SCok S) : (S 202).2 = 40 := hS.2.2.2.2.2.2.2.2.2.2.2.2.2.2.1
theorem shC203 {S : Nat → Nat × Nat} (hS : SCok S) : (S 203).2 = 40 := hS.2.2.2.2.2.2.2.2.2.2.2.2.2.2.2.1
theorem shC204 {S : Nat → Nat × Nat} (hS : SCok S) : (S 204).2 = 40 := hS.2.2.2.2.2.2.2.2.2.2.2.2.2.2.2.2.1
theorem shC205 {S : Nat → Nat × Nat} (hS : SCok S) : (S 205).2 = 2 := hS.2.2.2.2.2.2.2.2.2.2.2.2.2.2.2.2.2.1
theorem shC206 {S : Nat → Nat × Nat} (hS : SCok S) : (S 206).2 = 2 := hS.2.2.2.2.2.2.2.2.2.2.2.2.2.2.2.2.2.2.1
theorem shC207 {S : Nat → Nat × Nat} (hS : SCok S) : (S 207).2 = 2 := hS.2.2.2.2.2.2.2.2.2.2.2.2.2.2.2.2.2.2.2.1
theorem shC208 {S : Nat → Nat × Nat} (hS : SCok S) : (S 208).2 = 2 := hS.2.2.2.2.2.2.2.2.2.2.2.2.2.2.2.2.2.2.2.2.1
theorem shC238 {S : Nat → Nat × Nat} (hS : SCok S) : (S 238).2 = 40 := hS.2.2.2.2.2.2.2.2.2.2.2.2.2.2.2.2.2.2.2.2.2.1
theorem shC239 {S : Nat → Nat × Nat} (hS : SCok S) : (S 239).2 = 40 := hS.2.2.2.2.2.2.2.2.2.2.2.2.2.2.2.2.2.2.2.2.2.2.1
theorem shC240 {S : Nat → Nat × Nat} (hS : SCok S) : (S 240).2 = 40 := hS.2.2.2.2.2.2.2.2.2.2.2.2.2.2.2.2.2.2.2.2.2.2.2.1
theorem shC268 {S : Nat → Nat × Nat} (hS : SCok S) : (S 268).2 = 40 := hS.2.2.2.2.2.2.2.2.2.2.2.2.2.2.2.2.2.2.2.2.2.2.2.2.1
theorem shC269 {S : Nat → Nat × Nat} (hS : SCok S) : (S 269).2 = 40 := hS.2.2.2.2.2.2.2.2.2.2.2.2.2.2.2.2.2.2.2.2.2.2.2.2.2.1
theorem shC270 {S : Nat → Nat × Nat} (hS : SCok S) : (S 270).2 = 40 := hS.2.2.2.2.2.2.2.2.2.2.2.2.2.2.2.2.2.2.2.2.2.2.2.2.2.2.1
theorem shC121 {S : Nat → Nat × Nat} (hS : SCok S) : (S 121).2 = 8 := hS.2.2.2.2.2.2.2.2.2.2.2.2.2.2.2.2.2.2.2.2.2.2.2.2.2.2.2
theorem rfC64_0 {rf : Nat → Nat → Option Nat} (hr : RCok rf) : rf 64 0 = some 65 := hr.2.2.1
theorem rfC64_1 {rf : Nat → Nat → Option Nat} (hr : RCok rf) : rf 64 1 = some 67 := hr.2.2.2.1
theorem rfC64_2 {rf : Nat → Nat → Option Nat} (hr : RCok rf) : rf 64 2 = some 85 := hr.2.2.2.2.1
theorem rfC64_3 {rf : Nat → Nat → Option Nat} (hr : RCok rf) : rf 64 3 = some 103 := hr.2.2.2.2.2.1
theorem rfC64_4 {rf : Nat → Nat → Option Nat} (hr : RCok rf) : rf 64 4 = some 104 := hr.2.2.2.2.2.2.1
theorem rfC64_5 {rf : Nat → Nat → Option Nat} (hr : RCok rf) : rf 64 5 = some 112 := hr.2.2.2.2.2.2.2.1
theorem rfC64_6 {rf : Nat → Nat → Option Nat} (hr : RCok rf) : rf 64 6 = some 120 := hr.2.2.2.2.2.2.2.2.1
theorem rfC64_7 {rf : Nat → Nat → Option Nat} (hr : RCok rf) : rf 64 7 = some 186 := hr.2.2.2.2.2.2.2.2.2.1
theorem rfC64_8 {rf : Nat → Nat → Option Nat} (hr : RCok rf) : rf 64 8 = some 189 := hr.2.2.2.2.2.2.2.2.2.2.1
theorem rfC64_9 {rf : Nat → Nat → Option Nat} (hr : RCok rf) : rf 64 9 = some 193 := hr.2.2.2.2.2.2.2.2.2.2.2.1
theorem rfC64_10 {rf : Nat → Nat → Option Nat} (hr : RCok rf) : rf 64 10 = some 197 := hr.2.2.2.2.2.2.2.2.2.2.2.2.1
theorem rfC64_11 {rf : Nat → Nat → Option Nat} (hr : RCok rf) : rf 64 11 = some 201 := hr.2.2.2.2.2.2.2.2.2.2.2.2.2.1
theorem rfC64_12 {rf : Nat → Nat → Option Nat} (hr : RCok rf) : rf 64 12 = some 205 := hr.2.2.2.2.2.2.2.2.2.2.2.2.2.2.1
theorem rfC64_13 {rf : Nat → Nat → Option Nat} (hr : RCok rf) : rf 64 13 = some 206 := hr.2.2.2.2.2.2.2.2.2.2.2.2.2.2.2.1
theorem rfC64_14 {rf : Nat → Nat → Option Nat} (hr : RCok rf) : rf 64 14 = some 207 := hr.2.2.2.2.2.2.2.2.2.2.2.2.2.2.2.2.1
theorem rfC64_15 {rf : Nat → Nat → Option Nat} (hr : RCok rf) : rf 64 15 = some 208 := hr.2.2.2.2.2.2.2.2.2.2.2.2.2.2.2.2.2.1
theorem rfC65_0 {rf : Nat → Nat → Option Nat} (hr : RCok rf) : rf 65 0 = some 66 := hr.2.2.2.2.2.2.2.2.2.2.2.2.2.2.2.2.2.2.1
theorem rfC103_0 {rf : Nat → Nat → Option Nat} (hr : RCok rf) : rf 103 0 = some 65 := hr.2.2.2.2.2.2.2.2.2.2.2.2.2.2.2.2.2.2.2.1
theorem rfC103_1 {rf : Nat → Nat → Option Nat} (hr : RCok rf) : rf 103 1 = some 85 := hr.2.2.2.2.2.2.2.2.2.2.2.2.2.2.2.2.2.2.2.2.1
theorem rfC120_0 {rf : Nat → Nat → Option Nat} (hr : RCok rf) : rf 120 0 = some 121 := hr.2.2.2.2.2.2.2.2.2.2.2.2.2.2.2.2.2.2.2.2.2.1
theorem rfC186_0 {rf : Nat → Nat → Option Nat} (hr : RCok rf) : rf 186 0 = some 67 := hr.2.2.2.2.2.2.2.2.2.2.2.2.2.2.2.2.2.2.2.2.2.2.1
theorem rfC186_1 {rf : Nat → Nat → Option Nat} (hr : RCok rf) : rf 186 1 = some 104 := hr.2.2.2.2.2.2.2.2.2.2.2.2.2.2.2.2.2.2.2.2.2.2.2.1
theorem rfC186_2 {rf : Nat → Nat → Option Nat} (hr : RCok rf) : rf 186 2 = some 187 := hr.2.2.2.2.2.2.2.2.2.2.2.2.2.2.2.2.2.2.2.2.2.2.2.2.1
theorem rfC186_3 {rf : Nat → Nat → Option Nat} (hr : RCok rf) : rf 186 3 = some 188 := hr.2.2.2.2.2.2.2.2.2.2.2.2.2.2.2.2.2.2.2.2.2.2.2.2.2.1
theorem rfC189_0 {rf : Nat → Nat → Option Nat} (hr : RCok rf) : rf 189 0 = some 186 := hr.2.2.2.2.2.2.2.2.2.2.2.2.2.2.2.2.2.2.2.2.2.2.2.2.2.2.1
theorem rfC189_1 {rf : Nat → Nat → Option Nat} (hr : RCok rf) : rf 189 1 = some 190 := hr.2.2.2.2.2.2.2.2.2.2.2.2.2.2.2.2.2.2.2.2.2.2.2.2.2.2.2.1
theorem rfC189_2 {rf : Nat → Nat → Option Nat} (hr : RCok rf) : rf 189 2 = some 191 := hr.2.2.2.2.2.2.2.2.2.2.2.2.2.2.2.2.2.2.2.2.2.2.2.2.2.2.2.2.1
theorem rfC189_3 {rf : Nat → Nat → Option Nat} (hr : RCok rf) : rf 189 3 = some 192 := hr.2.2.2.2.2.2.2.2.2.2.2.2.2.2.2.2.2.2.2.2.2.2.2.2.2.2.2.2.2.1
theorem rfC193_0 {rf : Nat → Nat → Option Nat} (hr : RCok rf) : rf 193 0 = some 65 := hr.2.2.2.2.2.2.2.2.2.2.2.2.2.2.2.2.2.2.2.2.2.2.2.2.2.2.2.2.2.2.1
theorem rfC193_1 {rf : Nat → Nat → Option Nat} (hr : RCok rf) : rf 193 1 = some 67 := hr.2.2.2.2.2.2.2.2.2.2.2.2.2.2.2.2.2.2.2.2.2.2.2.2.2.2.2.2.2.2.2.1
theorem rfC193_2 {rf : Nat → Nat → Option Nat} (hr : RCok rf) : rf 193 2 = some 194 := hr.2.2.2.2.2.2.2.2.2.2.2.2.2.2.2.2.2.2.2.2.2.2.2.2.2.2.2.2.2.2.2.2.1
theorem rfC193_3 {rf : Nat → Nat → Option Nat} (hr : RCok rf) : rf 193 3 = some 195 := hr.2.2.2.2.2.2.2.2.2.2.2.2.2.2.2.2.2.2.2.2.2.2.2.2.2.2.2.2.2.2.2.2.2.1
theorem rfC193_4 {rf : Nat → Nat → Option Nat} (hr : RCok rf) : rf 193 4 = some 196 := hr.2.2.2.2.2.2.2.2.2.2.2.2.2.2.2.2.2.2.2.2.2.2.2.2.2.2.2.2.2.2.2.2.2.2.1
theorem rfC197_0 {rf : Nat → Nat → Option Nat} (hr : RCok rf) : rf 197 0 = some 198 := hr.2.2.2.2.2.2.2.2.2.2.2.2.2.2.2.2.2.2.2.2.2.2.2.2.2.2.2.2.2.2.2.2.2.2.2.1
theorem rfC197_1 {rf : Nat → Nat → Option Nat} (hr : RCok rf) : rf 197 1 = some 199 := hr.2.2.2.2.2.2.2.2.2.2.2.2.2.2.2.2.2.2.2.2.2.2.2.2.2.2.2.2.2.2.2.2.2.2.2.2.1
theorem rfC197_2 {rf : Nat → Nat → Option Nat} (hr : RCok rf) : rf 197 2 = some 200 := hr.2.2.2.2.2.2.2.2.2.2.2.2.2.2.2.2.2.2.2.2.2.2.2.2.2.2.2.2.2.2.2.2.2.2.2.2.2.1
theorem rfC201_0 {rf : Nat → Nat → Option Nat} (hr : RCok rf) : rf 201 0 = some 202 := hr.2.2.2.2.2.2.2.2.2.2.2.2.2.2.2.2.2.2.2.2.2.2.2.2.2.2.2.2.2.2.2.2.2.2.2.2.2.2.1
theorem rfC201_1 {rf : Nat → Nat → Option Nat} (hr : RCok rf) : rf 201 1 = some 203 := hr.2.2.2.2.2.2.2.2.2.2.2.2.2.2.2.2.2.2.2.2.2.2.2.2.2.2.2.2.2.2.2.2.2.2.2.2.2.2.2.1
theorem rfC201_2 {rf : Nat → Nat → Option Nat} (hr : RCok rf) : rf 201 2 = some 204 := hr.2.2.2.2.2.2.2.2.2.2.2.2.2.2.2.2.2.2.2.2.2.2.2.2.2.2.2.2.2.2.2.2.2.2.2.2.2.2.2.2.1
theorem rfC205_0 {rf : Nat → Nat → Option Nat} (hr : RCok rf) : rf 205 0 = some 211 := hr.2.2.2.2.2.2.2.2.2.2.2.2.2.2.2.2.2.2.2.2.2.2.2.2.2.2.2.2.2.2.2.2.2.2.2.2.2.2.2.2.2.1
theorem rfC205_1 {rf : Nat → Nat → Option Nat} (hr : RCok rf) : rf 205 1 = some 241 := hr.2.2.2.2.2.2.2.2.2.2.2.2.2.2.2.2.2.2.2.2.2.2.2.2.2.2.2.2.2.2.2.2.2.2.2.2.2.2.2.2.2.2.1
theorem rfC206_0 {rf : Nat → Nat → Option Nat} (hr : RCok rf) : rf 206 0 = some 229 := hr.2.2.2.2.2.2.2.2.2.2.2.2.2.2.2.2.2.2.2.2.2.2.2.2.2.2.2.2.2.2.2.2.2.2.2.2.2.2.2.2.2.2.2.1
theorem rfC206_1 {rf : Nat → Nat → Option Nat} (hr : RCok rf) : rf 206 1 = some 259 := hr.2.2.2.2.2.2.2.2.2.2.2.2.2.2.2.2.2.2.2.2.2.2.2.2.2.2.2.2.2.2.2.2.2.2.2.2.2.2.2.2.2.2.2.2.1
theorem rfC207_0 {rf : Nat → Nat → Option Nat} (hr : RCok rf) : rf 207 0 = some 237 := hr.2.2.2.2.2.2.2.2.2.2.2.2.2.2.2.2.2.2.2.2.2.2.2.2.2.2.2.2.2.2.2.2.2.2.2.2.2.2.2.2.2.2.2.2.2.1
theorem rfC207_1 {rf : Nat → Nat → Option Nat} (hr : RCok rf) : rf 207 1 = some 267 := hr.2.2.2.2.2.2.2.2.2.2.2.2.2.2.2.2.2.2.2.2.2.2.2.2.2.2.2.2.2.2.2.2.2.2.2.2.2.2.2.2.2.2.2.2.2.2.1
theorem rfC237_0 {rf : Nat → Nat → Option Nat} (hr : RCok rf) : rf 237 0 = some 238 := hr.2.2.2.2.2.2.2.2.2.2.2.2.2.2.2.2.2.2.2.2.2.2.2.2.2.2.2.2.2.2.2.2.2.2.2.2.2.2.2.2.2.2.2.2.2.2.2.1
theorem rfC237_1 {rf : Nat → Nat → Option Nat} (hr : RCok rf) : rf 237 1 = some 239 := hr.2.2.2.2.2.2.2.2.2.2.2.2.2.2.2.2.2.2.2.2.2.2.2.2.2.2.2.2.2.2.2.2.2.2.2.2.2.2.2.2.2.2.2.2.2.2.2.2.1
theorem rfC237_2 {rf : Nat → Nat → Option Nat} (hr : RCok rf) : rf 237 2 = some 240 := hr.2.2.2.2.2.2.2.2.2.2.2.2.2.2.2.2.2.2.2.2.2.2.2.2.2.2.2.2.2.2.2.2.2.2.2.2.2.2.2.2.2.2.2.2.2.2.2.2.2.1
theorem rfC267_0 {rf : Nat → Nat → Option Nat} (hr : RCok rf) : rf 267 0 = some 268 := hr.2.2.2.2.2.2.2.2.2.2.2.2.2.2.2.2.2.2.2.2.2.2.2.2.2.2.2.2.2.2.2.2.2.2.2.2.2.2.2.2.2.2.2.2.2.2.2.2.2.2.1
theorem rfC267_1 {rf : Nat → Nat → Option Nat} (hr : RCok rf) : rf 267 1 = some 269 := hr.2.2.2.2.2.2.2.2.2.2.2.2.2.2.2.2.2.2.2.2.2.2.2.2.2.2.2.2.2.2.2.2.2.2.2.2.2.2.2.2.2.2.2.2.2.2.2.2.2.2.2.1
theorem rfC267_2 {rf : Nat → Nat → Option Nat} (hr : RCok rf) : rf 267 2 = some 270 := hr.2.2.2.2.2.2.2.2.2.2.2.2.2.2.2.2.2.2.2.2.2.2.2.2.2.2.2.2.2.2.2.2.2.2.2.2.2.2.2.2.2.2.2.2.2.2.2.2.2.2.2.2.1
theorem rfC64_16 {rf : Nat → Nat → Option Nat} (hr : RCok rf) : rf 64 16 = some 209 := hr.2.2.2.2.2.2.2.2.2.2.2.2.2.2.2.2.2.2.2.2.2.2.2.2.2.2.2.2.2.2.2.2.2.2.2.2.2.2.2.2.2.2.2.2.2.2.2.2.2.2.2.2.2
def AgW (N N' : Int → Int) : Prop := ∀ j, 0 ≤ j ∧ j < 383 → N' j = N j
theorem AgW_symm {N N' : Int → Int} (h : AgW N N') : AgW N' N := fun j hj => (h j hj).symm
theorem rP_w {N N' : Int → Int} {a lo hi n : Int} (h : rP N a lo hi n) (hn : 0 ≤ a ∧ a + n ≤ 383) (ag : AgW N N') : rP N' a lo hi n := fun p h1 h2 => by
  rw [ag (a + p) (by omega)]; exact h p h1 h2
theorem WFP_w {N N' : Int → Int} (wf : WFP N) (ag : AgW N N') : WFP N' := by
  obtain ⟨wn0, wn1, wn2, wn3, wn4, wn5, wn6, wn7, wfr, wto, wff, wwa, wco, wwd, wgl, wgr, wnk, wda, wdr, wgo, wg1, wg2, wwx⟩ := wf
  have e0 := ag 0 (by omega)
  have e1 := ag 1 (by omega)
  unfold WFP
  rw [ag 2 (by omega), ag 3 (by omega), ag 4 (by omega), ag 5 (by omega), ag 6 (by omega), ag 7 (by omega), e0, e1]
  refine ⟨wn0, wn1, wn2, wn3, wn4, wn5, wn6, wn7, rP_w wfr (by omega) ag, rP_w wto (by omega) ag, rP_w wff (by omega) ag, rP_w wwa (by omega) ag, rP_w wco (by omega) ag, fun p h1 h2 => ?_, fun g h1 h2 => ?_, rP_w wgr (by omega) ag, rP_w wnk (by omega) ag, rP_w wda (by omega) ag, rP_w wdr (by omega) ag, rP_w wgo (by omega) ag, rP_w wg1 (by omega) ag, rP_w wg2 (by omega) ag, fun p h1 h2 => ?_⟩
  · rw [ag (48 + p) (by omega)]; exact wwd p h1 h2
  · have h3 := wgl g h1 h2
    rw [ag (56 + g) (by omega), ag (60 + g) (by omega), ag (64 + g) (by omega), ag (68 + g) (by omega), ag (48 + N (56 + g)) (by omega), ag (48 + N (60 + g)) (by omega)]
    exact h3
  · intro h3
    have h4 := wwd p h1 (by omega)
    rw [ag (48 + p) (by omega)] at h3 ⊢
    rw [ag (56 + N (48 + p)) (by omega), ag (60 + N (48 + p)) (by omega)]
    exact wwx p h1 h2 h3
theorem CP_w {x : Nat} {Q : Nat → Int → Int} {N N' : Int → Int} (cp : CP x Q N) (wf : WFP N) (ag : AgW N N') : CP x Q N' := by
  obtain ⟨wn0, wn1, wn2, wn3, wn4, wn5, wn6, wn7, wfr, wto, wff, wwa, wco, wwd, wgl, wgr, wnk, wda, wdr, wgo, wg1, wg2, wwx⟩ := wf
  have e0 := ag 0 (by omega)
  have e1 := ag 1 (by omega)
  have e2 := ag 2 (by omega)
  have e7 := ag 7 (by omega)
  obtain ⟨c, cpp, cpg, cpd, cpk⟩ := cp
  unfold CP
  rw [ag 3 (by omega), ag 4 (by omega), ag 5 (by omega), ag 6 (by omega), e0, e1, e2, e7]
  refine ⟨c, fun p h1 h2 => ?_, fun p h1 h2 => ?_, fun p h1 h2 => ?_, fun p h1 h2 => ?_⟩
  · rw [ag (8 + p) (by omega), ag (16 + p) (by omega), ag (24 + p) (by omega), ag (32 + p) (by omega), ag (40 + p) (by omega)]; exact cpp p h1 h2
  · rw [ag (56 + p) (by omega), ag (60 + p) (by omega), ag (64 + p) (by omega), ag (68 + p) (by omega)]; exact cpg p h1 h2
  · rw [ag (72 + p) (by omega), ag (78 + p) (by omega)]; exact cpd p h1 h2
  · rw [ag (84 + p) (by omega), ag (90 + p) (by omega), ag (96 + p) (by omega)]; exact cpk p h1 h2
theorem CL_w {l : Nat} {Q : Nat → Int → Int} {N N' : Int → Int} (ag : AgW N N') (wn0 : N 0 ≤ 8) (wn1 : N 1 ≤ 4) (cl : CL l Q N) : CL l Q N' := by
  obtain ⟨⟨c102, c104, c103⟩, clp, clg⟩ := cl
  have e0 := ag 0 (by omega)
  have e1 := ag 1 (by omega)
  refine ⟨⟨?_, ?_, ?_⟩, fun p h1 h2 => ?_, fun g h1 h2 => ?_⟩
  · rw [ag 102 (by omega)]; exact c102
  · rw [ag 104 (by omega)]; exact c104
  · rw [ag 103 (by omega)]; exact c103
  · rw [e0] at h2
    rw [ag (105 + p) (by omega), ag (113 + p) (by omega)]; exact clp p h1 h2
  · rw [e1] at h2
    rw [ag (125 + g) (by omega), ag (129 + g) (by omega), ag (121 + g) (by omega), ag (133 + g) (by omega), ag (137 + g) (by omega)]; exact clg g h1 h2
theorem LOK_w {N N' : Int → Int} (lo : LOK N) (wn1 : N 1 ≤ 4) (ag : AgW N N') : LOK N' := by
  obtain ⟨wl, ww⟩ := lo
  obtain ⟨vh, vfo, vnk, vle, vti, vwa, vgl⟩ := wl
  refine ⟨?_, ?_⟩
  · unfold WFL
    rw [ag 102 (by omega), ag 1 (by omega)]
    refine ⟨vh, rP_w vfo (by omega) ag, rP_w vnk (by omega) ag, rP_w vle (by omega) ag, rP_w vti (by omega) ag, rP_w vwa (by omega) ag, fun g h1 h2 => ?_⟩
    rw [ag (121 + g) (by omega), ag (125 + g) (by omega), ag (64 + g) (by omega)]
    exact vgl g h1 h2
  · intro g h1 h2
    rw [ag 1 (by omega)] at h2
    have h3 := ww g h1 h2
    unfold lapA at h3 ⊢
    rw [ag 104 (by omega), ag (133 + g) (by omega), ag 3 (by omega), ag (125 + g) (by omega)]
    exact h3
theorem senR_w {st : Nat → Option Nat} {sg vl : Int → Int} {size ones : Int} {N N' : Int → Int} (h : senR st sg vl size ones N) (ag : AgW N N') : senR st sg vl size ones N' := by
  unfold senR
  rw [ag 141 (by omega), ag 142 (by omega)]
  rcases h with h | ⟨h1, h2, h3, T, h4, h5⟩
  · exact Or.inl h
  · refine Or.inr ⟨h1, h2, h3, T, ?_, h5⟩
    rw [← h4]
    have : ndN N' = ndN N := by
      funext j
      unfold ndN
      by_cases h : j < 0 ∨ 240 ≤ j
      · rw [if_pos h, if_pos h]
      · rw [if_neg h, if_neg h, ag (143 + j) (by omega)]
    rw [this]
theorem namR_w {w1 w7 w14 v w1' w7' w14' v' : Nat → Int64} {o o' : Nat} {N N' : Int → Int} (h : namR w1 w7 w14 v o N) (wf : WFP N) (ag : AgW N N') (h1 : ∀ j, j < 8 → w1' j = w1 j) (h7 : ∀ j, j < 4 → w7' j = w7 j) (h14 : ∀ j, j < 6 → w14' j = w14 j) (hv : ∀ j, j < 18 → v' (o' + j) = v (o + j)) : namR w1' w7' w14' v' o' N' := by
  obtain ⟨wn0, wn1, wn2, wn3, wn4, wn5, wn6, wn7, wfr, wto, wff, wwa, wco, wwd, wgl, wgr, wnk, wda, wdr, wgo, wg1, wg2, wwx⟩ := wf
  obtain ⟨a1, a2, a3⟩ := h
  unfold namR
  rw [ag 0 (by omega), ag 1 (by omega), ag 2 (by omega)]
  refine ⟨fun p hp => ?_, fun p hp => ?_, fun p hp => ?_⟩
  · rw [h1 p (by omega), hv p (by omega)]; exact a1 p hp
  · rw [h7 p (by omega), Nat.add_assoc, hv (8 + p) (by omega), ← Nat.add_assoc]; exact a2 p hp
  · rw [h14 p (by omega), Nat.add_assoc, hv (12 + p) (by omega), ← Nat.add_assoc]; exact a3 p hp
def isSen (s : Nat) : Prop := s = 197 ∨ s = 201 ∨ s = 237 ∨ s = 267
theorem sen_ref {rf : Nat → Nat → Option Nat} {s : Nat} (hr : RCok rf) (hs : isSen s) : rf s 0 = some (s + 1) ∧ rf s 1 = some (s + 2) ∧ rf s 2 = some (s + 3) := by
  rcases hs with h | h | h | h <;> subst h
  · exact ⟨rfC197_0 hr, rfC197_1 hr, rfC197_2 hr⟩
  · exact ⟨rfC201_0 hr, rfC201_1 hr, rfC201_2 hr⟩
  · exact ⟨rfC237_0 hr, rfC237_1 hr, rfC237_2 hr⟩
  · exact ⟨rfC267_0 hr, rfC267_1 hr, rfC267_2 hr⟩
theorem sen_sh {S : Nat → Nat × Nat} {s : Nat} (hS : SCok S) (hs : isSen s) : (S (s + 1)).2 = 40 ∧ (S (s + 2)).2 = 40 ∧ (S (s + 3)).2 = 40 := by
  rcases hs with h | h | h | h <;> subst h
  · exact ⟨shC198 hS, shC199 hS, shC200 hS⟩
  · exact ⟨shC202 hS, shC203 hS, shC204 hS⟩
  · exact ⟨shC238 hS, shC239 hS, shC240 hS⟩
  · exact ⟨shC268 hS, shC269 hS, shC270 hS⟩
def rfS (rf : Nat → Nat → Option Nat) (s t k : Nat) : Nat → Nat → Option Nat := fun a j => if a = s + 1 ∧ j < k then rf (t + 1) j else rf a j
theorem rfS_succ {rf : Nat → Nat → Option Nat} {s t k b : Nat} (hb : rf (t + 1) k = some b) : up2 (rfS rf s t k) (s + 1) k (some b) = rfS rf s t (k + 1) := by
  funext a j
  simp only [up2, rfS]
  by_cases ha : a = s + 1
  · by_cases hj : j = k
    · rw [if_pos ha, if_pos hj, if_pos ⟨ha, by omega⟩, hj, hb]
    · rw [if_pos ha, if_neg hj]
      by_cases h2 : j < k
      · rw [if_pos ⟨ha, h2⟩, if_pos ⟨ha, by omega⟩]
      · rw [if_neg (by omega), if_neg (by omega)]
  · rw [if_neg ha, if_neg (by omega), if_neg (by omega)]
def cpSen (s t : Nat) (Q : Nat → Int → Int) : Nat → Int → Int := setR (setR (setR Q (s + 2) (cpf (Q (s + 2)) (Q (t + 2)) 0 0 40)) (s + 3) (cpf (Q (s + 3)) (Q (t + 3)) 0 0 40)) s (updf (updf (Q s) 3 (Q t 3)) 4 (Q t 4))
theorem isSen_far {s t : Nat} (h : isSen s) (h' : isSen t) (hne : s ≠ t) : s + 4 ≤ t ∨ t + 4 ≤ s := by
  unfold isSen at h h'
  omega
theorem isSen_fx {s a : Nat} (h : isSen s) (ha : ∃ j, fxR a j) : a ≠ s + 1 := by
  obtain ⟨j, ha⟩ := ha
  unfold isSen at h
  unfold fxR at ha
  omega
theorem C_copySen {S : Nat → Nat × Nat} {Q : Nat → Int → Int} {w : Nat → Nat → Int64} {rf : Nat → Nat → Option Nat} {s t : Nat} (hS : SCok S) (hr : RCok rf) (hs : isSen s) (ht : isSen t) (hne : s ≠ t) (hw : senW (rf (t + 1))) : fX7_copyFrom S (mk Q w rf) s t = some (mk (cpSen s t Q) w (rfS rf s t 40)) ∧ RCok (rfS rf s t 40) := by
  have hf := isSen_far hs ht hne
  have hrk : ∀ k, RCok (rfS rf s t k) := fun k => RCok_of hr (by
    intro a j h
    unfold rfS
    rw [if_neg (fun h2 => isSen_fx hs ⟨j, h⟩ h2.1)])
  obtain ⟨a1, a2, a3⟩ := sen_sh hS hs
  obtain ⟨b1, b2, b3⟩ := sen_sh hS ht
  refine ⟨?_, hrk 40⟩
  have l1 := loop_seq (f := fX7_copyFrom_L2 S s t) (m := 1000) (fun k => (I k, mk (setR (setR Q (s + 2) (cpf (Q (s + 2)) (Q (t + 2)) 0 0 k)) (s + 3) (cpf (Q (s + 3)) (Q (t + 3)) 0 0 k)) w (rfS rf s t k))) 40 (r := mk (setR (setR Q (s + 2) (cpf (Q (s + 2)) (Q (t + 2)) 0 0 40)) (s + 3) (cpf (Q (s + 3)) (Q (t + 3)) 0 0 40)) w (rfS rf s t 40)) (by omega) (by
    intro k hk
    have h5 : ¬ ((40 : Int) ≤ (k : Int)) := by omega
    obtain ⟨b, hb, -⟩ := hw k (by omega)
    have ek : ((k : Int)).toNat = k := by omega
    have eb : rfS rf s t k (t + 1) ((k : Int)).toNat = some b := by
      rw [ek]
      unfold rfS
      rw [if_neg (by omega)]
      exact hb
    obtain ⟨p1, p2, p3⟩ := sen_ref (hrk k) hs
    obtain ⟨q1, q2, q3⟩ := sen_ref (hrk k) ht
    obtain ⟨p1', p2', p3'⟩ := sen_ref (hrk (k + 1)) hs
    obtain ⟨q1', q2', q3'⟩ := sen_ref (hrk (k + 1)) ht
    simp (disch := first | assumption | omega) only [fX7_copyFrom_L2, I_lit, orb_I, I_add, I_sub, I_mul, I_neg, nm_eq, bd0_s, bd2_s, un2_eq, un3_eq, un4_eq, un5_eq, un6_eq, cs2_l, cs2_r, mk_1, mk_2, wI_mk, wL_mk, wR_mk, setR_same, setR_setR, rZ_0, rZ_1, rZ_b2, it_b2, it_nb2, it_b21, it_nb21, I_lt, I_le, I_eq, I_div, castI, if_true, if_false, Classical.not_not, h5, gR_mk p1, gR_mk q1]
    rw [ldR_mk b1 (by omega) (by omega) eb, stR_mk a1 (by omega) (by omega), ek, rfS_succ hb]
    simp (disch := first | assumption | omega) only [gR_mk p2', gR_mk q2', gR_mk p3', gR_mk q3']
    rw [ldI_mk b2 (by omega) (by omega), stI_mk a2 (by omega) (by omega)]
    simp (disch := first | assumption | omega) only [gR_mk p3', gR_mk q3']
    rw [ldI_mk b3 (by omega) (by omega), stI_mk a3 (by omega) (by omega)]
    simp (disch := first | assumption | omega) only [I_lit, orb_I, I_add, I_sub, I_mul, I_neg, nm_eq, bd0_s, bd2_s, un2_eq, un3_eq, un4_eq, un5_eq, un6_eq, cs2_l, cs2_r, mk_1, mk_2, wI_mk, wL_mk, wR_mk, setR_same, setR_setR, rZ_0, rZ_1, rZ_b2, it_b2, it_nb2, it_b21, it_nb21, I_lt, I_le, I_eq, I_div, castI, if_true, if_false, Classical.not_not, setR_ne, setR_same]
    have e1 : setR (setR (setR (setR Q (s + 2) (cpf (Q (s + 2)) (Q (t + 2)) 0 0 k)) (s + 3) (cpf (Q (s + 3)) (Q (t + 3)) 0 0 k)) (s + 2) (updf (cpf (Q (s + 2)) (Q (t + 2)) 0 0 k) k (Q (t + 2) k))) (s + 3) (updf (cpf (Q (s + 3)) (Q (t + 3)) 0 0 k) k (Q (t + 3) k)) = setR (setR Q (s + 2) (cpf (Q (s + 2)) (Q (t + 2)) 0 0 ((k + 1 : Nat) : Int))) (s + 3) (cpf (Q (s + 3)) (Q (t + 3)) 0 0 ((k + 1 : Nat) : Int)) := by
      have f1 : updf (cpf (Q (s + 2)) (Q (t + 2)) 0 0 k) k (Q (t + 2) k) = cpf (Q (s + 2)) (Q (t + 2)) 0 0 ((k + 1 : Nat) : Int) := cpf_succ (by omega) (by omega) (by rw [Int.zero_add])
      have f2 : updf (cpf (Q (s + 3)) (Q (t + 3)) 0 0 k) k (Q (t + 3) k) = cpf (Q (s + 3)) (Q (t + 3)) 0 0 ((k + 1 : Nat) : Int) := cpf_succ (by omega) (by omega) (by rw [Int.zero_add])
      rw [f1, f2, setR_comm (a := s + 3) (b := s + 2) (by omega), setR_setR, setR_setR]
    rw [e1]
    rfl) (by
    simp (disch := first | assumption | omega) only [fX7_copyFrom_L2, I_lit, orb_I, I_add, I_sub, I_mul, I_neg, nm_eq, bd0_s, bd2_s, un2_eq, un3_eq, un4_eq, un5_eq, un6_eq, cs2_l, cs2_r, mk_1, mk_2, wI_mk, wL_mk, wR_mk, setR_same, setR_setR, rZ_0, rZ_1, rZ_b2, it_b2, it_nb2, it_b21, it_nb21, I_lt, I_le, I_eq, I_div, castI, if_true, if_false, Classical.not_not]
    rfl)
  have e0 : (I ((0 : Nat) : Int), mk (setR (setR Q (s + 2) (cpf (Q (s + 2)) (Q (t + 2)) 0 0 ((0 : Nat) : Int))) (s + 3) (cpf (Q (s + 3)) (Q (t + 3)) 0 0 ((0 : Nat) : Int))) w (rfS rf s t 0)) = ((0 : Int32), mk Q w rf) := by
    have : rfS rf s t 0 = rf := by
      funext a j
      unfold rfS
      rw [if_neg (by omega)]
    rw [this, show ((0 : Nat) : Int) = 0 from rfl, cpf_0, cpf_0, setR_id, setR_id]
    rfl
  simp only [e0] at l1
  simp only [fX7_copyFrom, l1]
  simp (disch := first | assumption | omega) only [I_lit, orb_I, I_add, I_sub, I_mul, I_neg, nm_eq, bd0_s, bd2_s, un2_eq, un3_eq, un4_eq, un5_eq, un6_eq, cs2_l, cs2_r, mk_1, mk_2, wI_mk, wL_mk, wR_mk, setR_same, setR_setR, rZ_0, rZ_1, rZ_b2, it_b2, it_nb2, it_b21, it_nb21, I_lt, I_le, I_eq, I_div, castI, if_true, if_false, Classical.not_not, setR_ne, updf_ne]
  rfl
theorem senR_cp {rf : Nat → Nat → Option Nat} {Q : Nat → Int → Int} {s t : Nat} {N : Int → Int} (h : senR (rf (t + 1)) (Q (t + 2)) (Q (t + 3)) (Q t 3) (Q t 4) N) : senR (rfS rf s t 40 (s + 1)) (cpSen s t Q (s + 2)) (cpSen s t Q (s + 3)) (cpSen s t Q s 3) (cpSen s t Q s 4) N := by
  have r2 : cpSen s t Q (s + 2) = cpf (Q (s + 2)) (Q (t + 2)) 0 0 40 := by
    simp (disch := omega) only [cpSen, setR_ne, setR_same]
  have r3 : cpSen s t Q (s + 3) = cpf (Q (s + 3)) (Q (t + 3)) 0 0 40 := by
    simp (disch := omega) only [cpSen, setR_ne, setR_same]
  have r0 : cpSen s t Q s = updf (updf (Q s) 3 (Q t 3)) 4 (Q t 4) := by
    simp (disch := omega) only [cpSen, setR_same]
  rw [r0, r2, r3]
  simp (disch := omega) only [updf_ne, updf_same]
  rcases h with h | ⟨h1, h2, h3, T, h4, h5, h6, h7⟩
  · exact Or.inl h
  · refine Or.inr ⟨h1, h2, h3, T, h4, h5, h6, fun i hi => ?_⟩
    rw [cpf_in (k := (i : Int)) (by omega) (by omega), cpf_in (k := (i : Int)) (by omega) (by omega)]
    unfold rfS
    rw [if_pos ⟨rfl, by omega⟩]
    exact h7 i hi
theorem cpSen_out {s t a : Nat} {Q : Nat → Int → Int} (h : a < s ∨ s + 3 < a) : cpSen s t Q a = Q a := by
  simp (disch := omega) only [cpSen, setR_ne]
theorem senW_cp {rf : Nat → Nat → Option Nat} {s t a : Nat} (h1 : senW (rf (t + 1))) (h2 : senW (rf a)) : senW (rfS rf s t 40 a) := by
  intro i hi
  unfold rfS
  by_cases h : a = s + 1 ∧ i < 40
  · rw [if_pos h]; exact h1 i hi
  · rw [if_neg h]; exact h2 i hi
