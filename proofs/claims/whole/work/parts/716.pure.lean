def sb (b : Int) : Int := if b < 128 then b else b - 256
def tapeR (q66 : Int → Int) (cs ms : Int) (r65 : Int → Int) : Prop := cs = ms ∧ (0 ≤ ms ∧ ms ≤ 940) ∧ ∀ i, 0 ≤ i → i < ms → (0 ≤ r65 i ∧ r65 i ≤ 255) ∧ q66 i = sb (r65 i)
def n5 (l : List Nat) : Nat := l.foldl (fun s d => 32 * s + d) 0
def n27 (l : List Nat) : Nat := l.foldl (fun s d => 27 * s + d) 0
def isNm (l : List Nat) : Prop := (∀ d ∈ l, 1 ≤ d ∧ d ≤ 26) ∧ 1 ≤ l.length ∧ l.length ≤ 7
def nmR (c v : Int64) : Prop := ∃ l : List Nat, isNm l ∧ c = Int64.ofNat (n5 l) ∧ v = Int64.ofNat (n27 l)
def namR (w1 w7 w14 v : Nat → Int64) (o : Nat) (N : Int → Int) : Prop := (∀ p : Nat, (p : Int) < N 0 → nmR (w1 p) (v (o + p))) ∧ (∀ p : Nat, (p : Int) < N 1 → nmR (w7 p) (v (o + 8 + p))) ∧ (∀ p : Nat, (p : Int) < N 2 → nmR (w14 p) (v (o + 12 + p)))
def wakR (cs : Int) (q192 : Int → Int) (ms : Int) (r77 : Int → Int) : Prop := cs = ms ∧ (0 ≤ ms ∧ ms ≤ 60) ∧ ∀ i, 0 ≤ i → i < ms → q192 i = r77 i
def rolR (q193 : Int → Int) (h : Int) (r80 : Int → Int) : Prop := q193 6 = h ∧ (h = 0 ∨ h = 1) ∧ (h = 1 → q193 7 = r80 0 ∧ q193 8 = r80 1 ∧ q193 9 = r80 2 ∧ q193 10 = r80 3)
def pfx (nd : Int → Int) : Nat → Int → Option (List (Int × Int × Int × Int))
  | 0, _ => none
  | f + 1, k => if nd (4 * k) = 1 then (pfx nd f (nd (4 * k + 1))).map (fun a => a ++ [(1, 0, 0, 0)])
    else if nd (4 * k) = 2 ∨ nd (4 * k) = 3 then (pfx nd f (nd (4 * k + 1))).bind (fun a => (pfx nd f (nd (4 * k + 2))).map (fun b => a ++ (b ++ [(nd (4 * k), 0, 0, 0)])))
    else some [(nd (4 * k), nd (4 * k + 1), nd (4 * k + 2), nd (4 * k + 3))]
def tokR (t : Int × Int × Int × Int) (st : Option Nat) (sg vl : Int) : Prop := (t.1 = 1 ∧ st = some 21) ∨ (t.1 = 2 ∧ st = some 20) ∨ (t.1 = 3 ∧ st = some 19) ∨ ((70 ≤ t.1 ∧ t.1 ≤ 73) ∧ st = some (t.1 - 48).toNat) ∨ (t.1 = 74 ∧ st = some 26 ∧ vl = t.2.1 ∧ 0 ≤ vl ∧ vl < 8) ∨ ((75 ≤ t.1 ∧ t.1 ≤ 78) ∧ st = some (t.1 - 48).toNat ∧ vl = t.2.2.1 ∧ (0 ≤ vl ∧ vl ≤ 999) ∧ sg = t.2.2.2 ∧ (60 ≤ sg ∧ sg ≤ 62))
def ndN (N : Int → Int) : Int → Int := fun j => if j < 0 ∨ 240 ≤ j then 0 else N (143 + j)
def senR (st : Nat → Option Nat) (sg vl : Int → Int) (size ones : Int) (N : Int → Int) : Prop := (N 141 = 0 ∧ ones = 0) ∨ (N 141 = 1 ∧ 1 ≤ ones ∧ ones ≤ 20 ∧ ∃ T, pfx (ndN N) 60 (N 142) = some T ∧ size = T.length ∧ T.length ≤ 40 ∧ ∀ (i : Nat) (h : i < T.length), tokR T[i] (st i) (sg i) (vl i))
def senW (st : Nat → Option Nat) : Prop := ∀ i, i < 40 → ∃ b, st i = some b ∧ b < 31
def knN (r68 : Int → Int) (k : Nat) : Int → Int := fun j => r68 (383 * k + j)
def imgR (Q : Nat → Int → Int) (w : Nat → Nat → Int64) (rf : Nat → Nat → Option Nat) (r68 r74 : Int → Int) (v73 : Nat → Int64) : Prop := ∀ k : Nat, k < 2 → (Q 208 k = r74 k ∧ (r74 k = 0 ∨ r74 k = 1)) ∧ (r74 k = 1 → WFP (knN r68 k) ∧ CP (211 + 30 * k) Q (knN r68 k) ∧ namR (w (212 + 30 * k)) (w (218 + 30 * k)) (w (225 + 30 * k)) v73 (18 * k) (knN r68 k) ∧ LOK (knN r68 k) ∧ CL (229 + 30 * k) Q (knN r68 k) ∧ senR (rf (238 + 30 * k)) (Q (239 + 30 * k)) (Q (240 + 30 * k)) (Q (237 + 30 * k) 3) (Q (237 + 30 * k) 4) (knN r68 k))
def parR (Q : Nat → Int → Int) (w : Nat → Nat → Int64) (v71 : Nat → Int64) (N : Int → Int) : Prop := WFP N ∧ CP 67 Q N ∧ namR (w 68) (w 74) (w 81) v71 0 N
def INV (Q : Nat → Int → Int) (w : Nat → Nat → Int64) (rf : Nat → Nat → Option Nat) (R : Nat → Int → Int) (v : Nat → Nat → Int64) : Prop := tapeR (Q 66) (Q 65 1) (R 64 2) (R 65) ∧ parR Q w (v 71) (R 66) ∧ (LOK (R 66) ∧ CL 104 Q (R 66)) ∧ UR Q rf (R 64 23) (R 66) (R 69) ∧ Q 64 17 = R 64 10 ∧ wakR (Q 189 4) (Q 192) (R 64 28) (R 77) ∧ rolR (Q 193) (R 64 37) (R 80) ∧ senR (rf 198) (Q 199) (Q 200) (Q 197 3) (Q 197 4) (R 66) ∧ imgR Q w rf (R 68) (R 74) (v 73) ∧ (senW (rf 198) ∧ senW (rf 202) ∧ senW (rf 238) ∧ senW (rf 268))
def texR (t : Nat × (Int → Int)) (n : Int) (r78 : Int → Int) : Prop := n = t.1 ∧ n ≤ 64 ∧ ∀ i, 0 ≤ i → i < n → r78 i = t.2 i
def SimX (t : Nat × (Int → Int)) (σC σM : mm) : Prop := ∃ Q w rf R v rm, σC = mk Q w rf ∧ σM = mk R v rm ∧ RCok rf ∧ RMok rm ∧ INV Q w rf R v ∧ texR t (R 64 32) (R 78)
def KQ (a : Nat) : Prop := a = 64 ∨ a = 66 ∨ (67 ≤ a ∧ a ≤ 84) ∨ (104 ≤ a ∧ a ≤ 111) ∨ a = 120 ∨ (122 ≤ a ∧ a ≤ 185) ∨ a = 192 ∨ a = 193 ∨ a = 197 ∨ a = 199 ∨ a = 200 ∨ a = 208 ∨ (211 ≤ a ∧ a ≤ 270)
def KM (a : Nat) : Prop := a = 65 ∨ a = 66 ∨ a = 68 ∨ a = 69 ∨ a = 74 ∨ a = 77 ∨ a = 80
def K64 (j : Int) : Prop := j = 2 ∨ j = 10 ∨ j = 23 ∨ j = 28 ∨ j = 37
theorem CP_q {x : Nat} {Q Q' : Nat → Int → Int} {N : Int → Int} (cp : CP x Q N) (h : ∀ a, x ≤ a → a ≤ x + 17 → Q' a = Q a) : CP x Q' N := by
  unfold CP
  rw [h x (by omega) (by omega), h (x + 2) (by omega) (by omega), h (x + 3) (by omega) (by omega), h (x + 4) (by omega) (by omega), h (x + 5) (by omega) (by omega), h (x + 6) (by omega) (by omega), h (x + 8) (by omega) (by omega), h (x + 9) (by omega) (by omega), h (x + 10) (by omega) (by omega), h (x + 11) (by omega) (by omega), h (x + 12) (by omega) (by omega), h (x + 13) (by omega) (by omega), h (x + 15) (by omega) (by omega), h (x + 16) (by omega) (by omega), h (x + 17) (by omega) (by omega)]
  exact cp
theorem UR_q {Q Q' : Nat → Int → Int} {rf rf' : Nat → Nat → Option Nat} {n : Int} {H H' s : Int → Int} (ur : UR Q rf n H s) (wf : WFP H) (h : ∀ a, (a = 120 ∨ (122 ≤ a ∧ a ≤ 185)) → Q' a = Q a) (hrf : rf' 121 = rf 121) (ag : AgP H H') : UR Q' rf' n H' s := by
  have wn0 := wf.1
  have wn1 := wf.2.1
  obtain ⟨u1, u2, L, u3, u4, u5⟩ := ur
  refine ⟨by rw [h 120 (by omega)]; exact u1, u2, L, by rw [hrf]; exact u3, u4, ?_⟩
  intro i hi
  obtain ⟨v1, v2⟩ := u5 i hi
  have ag' : AgL (snN H s i) (snN H' s i) := by
    intro j hj
    by_cases h1 : j < 102
    · rw [sn_lt h1, sn_lt h1, ag j h1]
    · rw [sn_ge (by omega), sn_ge (by omega)]
  have hui := (u3 i (by omega)).2
  have hr : 122 ≤ L i ∧ L i ≤ 178 := by unfold isUndo at hui; omega
  have n0 : snN H s (i : Int) 0 = H 0 := sn_lt (by omega)
  have n1 : snN H s (i : Int) 1 = H 1 := sn_lt (by omega)
  exact ⟨CL_ag ag' (by omega) (by omega) (CL_q v1 (fun a h1 h2 => h a (by omega))), LOK_ag v2 (by omega) ag'⟩
theorem imgR_q {Q Q' : Nat → Int → Int} {w w' : Nat → Nat → Int64} {rf rf' : Nat → Nat → Option Nat} {r68 r74 : Int → Int} {v73 : Nat → Int64} (im : imgR Q w rf r68 r74 v73) (h : ∀ a, (a = 208 ∨ (211 ≤ a ∧ a ≤ 270)) → Q' a = Q a) (hw : ∀ a, 212 ≤ a → w' a = w a) (h238 : rf' 238 = rf 238) (h268 : rf' 268 = rf 268) : imgR Q' w' rf' r68 r74 v73 := by
  intro k hk
  obtain ⟨i1, i2⟩ := im k hk
  refine ⟨by rw [h 208 (by omega)]; exact i1, fun h1 => ?_⟩
  obtain ⟨j1, j2, j3, j4, j5, j6⟩ := i2 h1
  refine ⟨j1, CP_q j2 (fun a h1 h2 => h a (by omega)), ?_, j4, CL_q j5 (fun a h1 h2 => h a (by omega)), ?_⟩
  · rw [hw _ (by omega), hw _ (by omega), hw _ (by omega)]; exact j3
  · rw [h _ (by omega), h _ (by omega), h _ (by omega)]
    have e : rf' (238 + 30 * k) = rf (238 + 30 * k) := by
      have : k = 0 ∨ k = 1 := by omega
      rcases this with h | h <;> subst h
      · exact h238
      · exact h268
    rw [e]
    exact j6
theorem INV_q {Q Q' : Nat → Int → Int} {w : Nat → Nat → Int64} {rf : Nat → Nat → Option Nat} {R R' : Nat → Int → Int} {v : Nat → Nat → Int64} (inv : INV Q w rf R v) (hq : ∀ a, KQ a → Q' a = Q a) (h65 : Q' 65 1 = Q 65 1) (h189 : Q' 189 4 = Q 189 4) (hm : ∀ a, KM a → R' a = R a) (h64 : ∀ j, K64 j → R' 64 j = R 64 j) : INV Q' w rf R' v := by
  obtain ⟨ta, pa, ⟨lo, cl⟩, ur, fa, wk, ro, se, im, sw⟩ := inv
  unfold KQ at hq
  unfold KM at hm
  unfold K64 at h64
  refine ⟨?_, ?_, ⟨?_, ?_⟩, ?_, ?_, ?_, ?_, ?_, ?_, sw⟩
  · rw [hq 66 (by omega), h65, h64 2 (by omega), hm 65 (by omega)]; exact ta
  · rw [hm 66 (by omega)]
    exact ⟨pa.1, CP_q pa.2.1 (fun a h1 h2 => hq a (by omega)), pa.2.2⟩
  · rw [hm 66 (by omega)]; exact lo
  · rw [hm 66 (by omega)]; exact CL_q cl (fun a h1 h2 => hq a (by omega))
  · rw [h64 23 (by omega), hm 66 (by omega), hm 69 (by omega)]
    exact UR_q ur pa.1 (fun a h => hq a (by omega)) rfl (AgP_refl _)
  · rw [hq 64 (by omega), h64 10 (by omega)]; exact fa
  · rw [h189, hq 192 (by omega), h64 28 (by omega), hm 77 (by omega)]; exact wk
  · rw [hq 193 (by omega), h64 37 (by omega), hm 80 (by omega)]; exact ro
  · rw [hq 199 (by omega), hq 200 (by omega), hq 197 (by omega), hm 66 (by omega)]; exact se
  · rw [hm 68 (by omega), hm 74 (by omega)]
    exact imgR_q im (fun a h => hq a (by omega)) (fun a h => rfl) rfl rfl
def AgS (N N' : Int → Int) : Prop := ∀ j, 141 ≤ j → N' j = N j
theorem AgS_refl (N : Int → Int) : AgS N N := fun j h => rfl
theorem AgS_trans {N N' N'' : Int → Int} (h : AgS N N') (h2 : AgS N' N'') : AgS N N'' := fun j hj => (h2 j hj).trans (h j hj)
theorem AgS_upd {N N' : Int → Int} {z v : Int} (h : AgS N N') (hz : z < 141) : AgS N (updf N' z v) := fun j hj => by rw [updf_ne (by omega)]; exact h j hj
theorem senR_ag {st : Nat → Option Nat} {sg vl : Int → Int} {size ones : Int} {N N' : Int → Int} (h : senR st sg vl size ones N) (ag : AgS N N') : senR st sg vl size ones N' := by
  unfold senR
  rw [ag 141 (by omega), ag 142 (by omega)]
  rcases h with h | ⟨h1, h2, h3, T, h4, h5⟩
  · exact Or.inl h
  · refine Or.inr ⟨h1, h2, h3, T, ?_, h5⟩
    rw [← h4]
    have : ndN N' = ndN N := by
      funext j
      unfold ndN
      by_cases h : j < 0 ∨ 240 ≤ j
      · rw [if_pos h, if_pos h]
      · rw [if_neg h, if_neg h, ag (143 + j) (by omega)]
    rw [this]
theorem AgS_turn {N : Int → Int} {p : Int} (h : 0 ≤ N (48 + p) ∧ N (48 + p) < 4) (hp : 0 ≤ p ∧ p < 8) : AgS N (turnA N p) := by
  unfold turnA
  exact AgS_upd (AgS_upd (AgS_upd (AgS_upd (AgS_refl N) (by omega)) (by omega)) (by omega)) (by omega)
theorem AgS_live {N : Int → Int} {a who n : Int} (wf : WFP N) (ok : okA N a who n) (hy : whyA N a who n = 0) : AgS N (liveA N a who n) := by
  obtain ⟨o1, o2, o3, o4, -⟩ := ok
  have wf' := wf
  obtain ⟨wn0, wn1, wn2, wn3, wn4, wn5, wn6, wn7, wfr, wto, wff, wwa, wco, wwd, wgl, wgr, wnk, wda, wdr, wgo, wg1, wg2, wwx⟩ := wf
  unfold liveA
  by_cases a0 : a = 0
  · rw [ii_t a0]
    have hp := o2 (by omega)
    have h1 := wwd who (by omega) (by omega)
    have h2 := (why_wed hy (by omega)).1
    exact AgS_turn (by omega) (by omega)
  rw [ii_f a0]
  by_cases a1 : a = 1
  · rw [ii_t a1]; exact AgS_upd (AgS_refl N) (by omega)
  rw [ii_f a1]
  by_cases a2 : a = 2
  · rw [ii_t a2]
    have ho := othA_r wf' (o2 (by omega)) (why_wed hy (by omega)).1
    exact AgS_upd (AgS_refl N) (by omega)
  rw [ii_f a2]
  have hp := o3 (by omega)
  by_cases a3 : a = 3
  · rw [ii_t a3]; exact AgS_upd (AgS_refl N) (by omega)
  rw [ii_f a3]
  by_cases a4 : a = 4
  · rw [ii_t a4]; exact AgS_upd (AgS_refl N) (by omega)
  rw [ii_f a4]
  exact AgS_upd (AgS_refl N) (by omega)
theorem AgS_step {N : Int → Int} {g : Int} (wf : WFP N) (hg : 0 ≤ g ∧ g < N 1) : AgS N (stepG N g) := by
  have wn1 := wf.2.1
  exact fun j hj => step_ne wf hg (by omega) (by omega) (by omega) (by omega) (by omega)
theorem AgS_hour {N : Int → Int} (wf : WFP N) (wl : WFL N) (w8 : W8 N) : AgS N (hourA N) := by
  have wn0 := wf.1
  have wn1 := wf.2.1
  have h1 : ∀ k : Nat, (k : Int) ≤ N 1 → AgS N (hourG N k) := by
    intro k
    induction k with
    | zero => intro _; exact AgS_refl N
    | succ k ih =>
      intro hk
      obtain ⟨i1, i2, i3⟩ := OKL_hourG wf wl w8 k (by omega)
      exact AgS_trans (ih (by omega)) (AgS_step (OKL_wf wf i1) (by rw [OKL_n i1 (by omega)]; omega))
  have h2 := h1 (N 1).toNat (by omega)
  obtain ⟨i1, i2, i3⟩ := OKL_hourG wf wl w8 (N 1).toNat (by omega)
  have n0 := OKL_n i1 (j := 0) (by omega)
  have h3 : AgS N (updf (hourG N (N 1).toNat) 103 0) := AgS_upd h2 (by omega)
  unfold hourA restA ii
  split
  · refine AgS_upd ?_ (by omega)
    intro j hj
    rw [fondG_ne (by omega)]
    exact h3 j hj
  · exact AgS_upd h3 (by omega)
theorem AgS_hoursN {N : Int → Int} (wf : WFP N) (wl : WFL N) (w8 : W8 N) (k : Nat) (hk : k ≤ 600 - N 102) : AgS N (hoursN N k) := by
  induction k with
  | zero => exact AgS_refl N
  | succ k ih =>
    obtain ⟨i1, i2⟩ := OKL_hoursN wf wl w8 k (by omega)
    exact AgS_trans (ih (by omega)) (AgS_hour (OKL_wf wf i1) i1.2.1 i1.2.2)
