theorem swm_s : ∀ k : Fin 31, (k.val = 22 → swm k.val = 18) ∧ (k.val = 23 → swm k.val = 19) ∧ (k.val = 24 → swm k.val = 20) ∧ (k.val = 25 → swm k.val = 21) ∧ (k.val = 26 → swm k.val = 22) ∧ (k.val = 27 → swm k.val = 25) ∧ (k.val = 28 → swm k.val = 26) ∧ (k.val = 29 → swm k.val = 27) ∧ (k.val = 30 → swm k.val = 0) ∧ (k.val = 19 → swm k.val = 24) ∧ (k.val = 20 → swm k.val = 23) ∧ (k.val = 21 → swm k.val = 17) := by decide +kernel
theorem C_leaf {S : Nat → Nat × Nat} {Q : Nat → Int → Int} {w : Nat → Nat → Int64} {rf : Nat → Nat → Option Nat} {N : Int → Int} {i g : Int} {t : Int × Int × Int × Int} {st : Nat} (hS : SCok S) (hr : RCok rf) (wf : WFP N) (lo : LOK N) (cp : CP 67 Q N) (cl : CL 104 Q N) (hg : 0 ≤ g ∧ g < N 1) (hi : 0 ≤ i ∧ i < 40) (hst : rf 198 i.toNat = some st) (tk : tokR t (some st) (Q 199 i) (Q 200 i)) (h70 : 70 ≤ t.1) : fX7_isSo S (mk Q w rf) 197 (I i) 104 67 (I g) = some (b2 (lfA N g t)) := by
  have wl := lo.1
  have hb102 := wl.1
  have wn0 := wf.1
  have wn1 := wf.2.1
  have wgl := wf.2.2.2.2.2.2.2.2.2.2.2.2.2.2.1
  have gl := wgl g hg.1 hg.2
  have cp' := cp
  have cl' := cl
  obtain ⟨a, b, c, d⟩ := t
  unfold tokR at tk
  dsimp only at tk h70
  have tk2 : (70 ≤ a ∧ a ≤ 78) ∧ st = (a - 48).toNat ∧ (a = 74 → Q 200 i = b ∧ 0 ≤ b ∧ b < 8) ∧ (75 ≤ a → Q 200 i = c ∧ Q 199 i = d ∧ 60 ≤ d ∧ d ≤ 62) := by
    rcases tk with ⟨z1, -⟩ | ⟨z1, -⟩ | ⟨z1, -⟩ | ⟨z1, z2⟩ | ⟨z1, z2, z3, z4, z5⟩ | ⟨z1, z2, z3, z4, z5, z6⟩
    · omega
    · omega
    · omega
    · injection z2 with z2
      exact ⟨by omega, z2, fun h => by omega, fun h => by omega⟩
    · injection z2 with z2
      exact ⟨by omega, by omega, fun h => ⟨z3, by omega, by omega⟩, fun h => by omega⟩
    · injection z2 with z2
      exact ⟨by omega, z2, fun h => by omega, fun h => ⟨z3, z5, by omega, by omega⟩⟩
  clear tk
  obtain ⟨h1, h2, h3, h4⟩ := tk2
  have hst31 : st < 31 := by omega
  have sw : ∀ _ : Unit, (st = 22 → swm st = 18) ∧ (st = 23 → swm st = 19) ∧ (st = 24 → swm st = 20) ∧ (st = 25 → swm st = 21) ∧ (st = 26 → swm st = 22) ∧ (st = 27 → swm st = 25) ∧ (st = 28 → swm st = 26) ∧ (st = 29 → swm st = 27) ∧ (st = 30 → swm st = 0) := fun _ => by
    obtain ⟨s22, s23, s24, s25, s26, s27, s28, s29, s30, -⟩ := swm_s ⟨st, hst31⟩
    exact ⟨s22, s23, s24, s25, s26, s27, s28, s29, s30⟩
  obtain ⟨⟨c102, c104, c103⟩, clp, clg⟩ := cl
  obtain ⟨-, -, cpg, -⟩ := cp
  have g1 := clg g hg.1 hg.2
  have g2 := cpg g hg.1 hg.2
  have q107 : Q 107 g = N (125 + g) := g1.1
  have q108 : Q 108 g = N (129 + g) := g1.2.1
  have q109 : Q 109 g = N (121 + g) := g1.2.2.1
  have q111 : Q 111 g = N (137 + g) := g1.2.2.2.2
  have q75 : Q 75 g = N (56 + g) := g2.1
  have q76 : Q 76 g = N (60 + g) := g2.2.1
  have ldp8 : ∀ F : Int32 → Option Int32, ldI S (mk Q w rf) 75 (I g) F = F (I (Q 75 g)) := fun F => ldP8 (x := 67) hS isPar67 (by omega)
  have ldp9 : ∀ F : Int32 → Option Int32, ldI S (mk Q w rf) 76 (I g) F = F (I (Q 76 g)) := fun F => ldP9 (x := 67) hS isPar67 (by omega)
  unfold fX7_isSo lfA
  rw [gC197_0 hr, ldR_mk (shC198 hS) (by omega) (by omega) hst, ldS_k hst31]
  dsimp only
  by_cases a70 : a = 70
  · have e : swm st = (18 : Int32) := (sw ()).1 (by omega)
    rw [if_pos e, ii_t a70, C_isLapsed cl', bd0_s, rZ_b2]
  rw [ii_f a70]
  by_cases a71 : a = 71
  · have hle := wl.2.2.2.1 g hg.1 (by omega)
    have e : swm st = (19 : Int32) := (sw ()).2.1 (by omega)
    rw [if_neg (show ¬ (swm st = (18 : Int32)) from by rw [e]; decide), if_pos e, ii_t a71, gC104_6 hr, ldD107 hS (by omega), q107]
    by_cases h : N (125 + g) = 0
    · rw [if_neg (fun h2 => h2 (by rw [h]; rfl)), b2_t h]; rfl
    · rw [if_pos (show ¬ (I (N (125 + g)) = (0 : Int32)) from fun h2 => h ((I_eq (b := 0) (by omega) (by omega)).1 h2)), b2_f h]; rfl
  rw [ii_f a71]
  by_cases a72 : a = 72
  · have hle := wl.2.2.2.2.1 g hg.1 (by omega)
    have e : swm st = (20 : Int32) := (sw ()).2.2.1 (by omega)
    rw [if_neg (show ¬ (swm st = (18 : Int32)) from by rw [e]; decide), if_neg (show ¬ (swm st = (19 : Int32)) from by rw [e]; decide), if_pos e, ii_t a72, gC104_7 hr, ldD108 hS (by omega), q108]
    by_cases h : N (129 + g) = 1
    · rw [if_neg (fun h2 => h2 (by rw [h]; rfl)), b2_t h]; rfl
    · rw [if_pos (show ¬ (I (N (129 + g)) = (1 : Int32)) from fun h2 => h ((I_eq (b := 1) (by omega) (by omega)).1 h2)), b2_f h]; rfl
  rw [ii_f a72]
  by_cases a73 : a = 73
  · have e : swm st = (21 : Int32) := (sw ()).2.2.2.1 (by omega)
    rw [if_neg (show ¬ (swm st = (18 : Int32)) from by rw [e]; decide), if_neg (show ¬ (swm st = (19 : Int32)) from by rw [e]; decide), if_neg (show ¬ (swm st = (20 : Int32)) from by rw [e]; decide), if_pos e, ii_t a73, gD67_8 hr, ldp8, q75, C_isAwake hS hr isLife104 wf wl cp' cl' (by omega), bd0_s]
    by_cases h1 : awkA N (N (56 + g)) (N 102)
    · rw [if_neg (by rw [b2_0]; exact fun h => h h1), gD67_9 hr, ldp9, q76, C_isAwake hS hr isLife104 wf wl cp' cl' (by omega), bd0_s]
      by_cases h2 : awkA N (N (60 + g)) (N 102)
      · rw [if_neg (by rw [b2_0]; exact fun h => h h2), b2_t ⟨h1, h2⟩]; rfl
      · rw [if_pos (b2_f h2), b2_f (fun h => h2 h.2)]; rfl
    · rw [if_pos (b2_f h1), b2_f (fun h => h1 h.1)]; rfl
  rw [ii_f a73]
  by_cases a74 : a = 74
  · obtain ⟨y1, y2, y3⟩ := h3 a74
    have e : swm st = (22 : Int32) := (sw ()).2.2.2.2.1 (by omega)
    rw [if_neg (show ¬ (swm st = (18 : Int32)) from by rw [e]; decide), if_neg (show ¬ (swm st = (19 : Int32)) from by rw [e]; decide), if_neg (show ¬ (swm st = (20 : Int32)) from by rw [e]; decide), if_neg (show ¬ (swm st = (21 : Int32)) from by rw [e]; decide), if_pos e, ii_t a74, gC197_2 hr, ldC200 hS hi, y1, gD67_8 hr, ldp8, q75]
    by_cases h1 : N (56 + g) = b
    · rw [if_pos (by rw [h1]), b2_t (Or.inl h1)]; rfl
    · rw [if_neg (fun h => h1 ((I_eq (by omega) (by omega)).1 h).symm), gC197_2 hr, ldC200 hS hi, y1, gD67_9 hr, ldp9, q76]
      by_cases h2 : N (60 + g) = b
      · rw [if_neg (fun h => h (by rw [h2])), b2_t (Or.inr h2)]; rfl
      · rw [if_pos (fun h => h2 ((I_eq (by omega) (by omega)).1 h).symm), b2_f (fun h => by omega)]; rfl
  rw [ii_f a74]
  obtain ⟨y1, y2, y3⟩ := h4 (by omega)
  by_cases a75 : a = 75
  · have e : swm st = (25 : Int32) := (sw ()).2.2.2.2.2.1 (by omega)
    rw [if_neg (show ¬ (swm st = (18 : Int32)) from by rw [e]; decide), if_neg (show ¬ (swm st = (19 : Int32)) from by rw [e]; decide), if_neg (show ¬ (swm st = (20 : Int32)) from by rw [e]; decide), if_neg (show ¬ (swm st = (21 : Int32)) from by rw [e]; decide), if_neg (show ¬ (swm st = (22 : Int32)) from by rw [e]; decide), if_neg (show ¬ (swm st = (23 : Int32)) from by rw [e]; decide), if_neg (show ¬ (swm st = (24 : Int32)) from by rw [e]; decide), if_pos e, ii_t a75, gC104_6 hr, ldD107 hS (by omega), q107, C_compares hS hr hi y2 y1 y3, bd0_s, rZ_b2]
  rw [ii_f a75]
  by_cases a76 : a = 76
  · have e : swm st = (26 : Int32) := (sw ()).2.2.2.2.2.2.1 (by omega)
    rw [if_neg (show ¬ (swm st = (18 : Int32)) from by rw [e]; decide), if_neg (show ¬ (swm st = (19 : Int32)) from by rw [e]; decide), if_neg (show ¬ (swm st = (20 : Int32)) from by rw [e]; decide), if_neg (show ¬ (swm st = (21 : Int32)) from by rw [e]; decide), if_neg (show ¬ (swm st = (22 : Int32)) from by rw [e]; decide), if_neg (show ¬ (swm st = (23 : Int32)) from by rw [e]; decide), if_neg (show ¬ (swm st = (24 : Int32)) from by rw [e]; decide), if_neg (show ¬ (swm st = (25 : Int32)) from by rw [e]; decide), if_pos e, ii_t a76, gC104_8 hr, ldD109 hS (by omega), q109, C_compares hS hr hi y2 y1 y3, bd0_s, rZ_b2]
  rw [ii_f a76]
  by_cases a77 : a = 77
  · have e : swm st = (27 : Int32) := (sw ()).2.2.2.2.2.2.2.1 (by omega)
    rw [if_neg (show ¬ (swm st = (18 : Int32)) from by rw [e]; decide), if_neg (show ¬ (swm st = (19 : Int32)) from by rw [e]; decide), if_neg (show ¬ (swm st = (20 : Int32)) from by rw [e]; decide), if_neg (show ¬ (swm st = (21 : Int32)) from by rw [e]; decide), if_neg (show ¬ (swm st = (22 : Int32)) from by rw [e]; decide), if_neg (show ¬ (swm st = (23 : Int32)) from by rw [e]; decide), if_neg (show ¬ (swm st = (24 : Int32)) from by rw [e]; decide), if_neg (show ¬ (swm st = (25 : Int32)) from by rw [e]; decide), if_neg (show ¬ (swm st = (26 : Int32)) from by rw [e]; decide), if_pos e, ii_t a77, gC104_10 hr, ldD111 hS (by omega), q111, C_compares hS hr hi y2 y1 y3, bd0_s, rZ_b2]
  have e : swm st = (0 : Int32) := (sw ()).2.2.2.2.2.2.2.2 (by omega)
  rw [ii_f a77, if_neg (show ¬ (swm st = (18 : Int32)) from by rw [e]; decide), if_neg (show ¬ (swm st = (19 : Int32)) from by rw [e]; decide), if_neg (show ¬ (swm st = (20 : Int32)) from by rw [e]; decide), if_neg (show ¬ (swm st = (21 : Int32)) from by rw [e]; decide), if_neg (show ¬ (swm st = (22 : Int32)) from by rw [e]; decide), if_neg (show ¬ (swm st = (23 : Int32)) from by rw [e]; decide), if_neg (show ¬ (swm st = (24 : Int32)) from by rw [e]; decide), if_neg (show ¬ (swm st = (25 : Int32)) from by rw [e]; decide), if_neg (show ¬ (swm st = (26 : Int32)) from by rw [e]; decide), if_neg (show ¬ (swm st = (27 : Int32)) from by rw [e]; decide), C_compares hS hr hi y2 y1 y3, bd0_s, rZ_b2]
