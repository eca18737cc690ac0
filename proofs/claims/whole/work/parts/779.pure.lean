def th1 (R : Nat → Int → Int) : Nat → Int → Int := setR R 64 (updf (R 64) 0 1)
theorem INV_th1 {Q : Nat → Int → Int} {w : Nat → Nat → Int64} {rf : Nat → Nat → Option Nat} {R : Nat → Int → Int} {v : Nat → Nat → Int64} (inv : INV Q w rf R v) : INV Q w rf (th1 R) v :=
  INV_q inv (fun a h => rfl) rfl rfl (fun a h => setR_ne (by unfold KM at h; omega)) (fun j h => by unfold th1; rw [setR_same, updf_ne (by unfold K64 at h; omega)])
theorem M_refuse {S' : Nat → Nat × Nat} {R : Nat → Int → Int} {v : Nat → Nat → Int64} {rm : Nat → Nat → Option Nat} : fX13_refuse S' (mk R v rm) 64 = some (0, mk (th1 R) v rm) := by
  unfold fX13_refuse
  rw [show (1 : Int32) = I 1 from rfl, wI_mk]
  rfl
theorem C_asN {S : Nat → Nat × Nat} {σ : mm} {P : Prop} : fX12_asNumber S σ (b2 P) = some (b2 P) := by
  unfold fX12_asNumber fX12_asNumber_b9
  by_cases h : P
  · rw [if_neg (show ¬ (b2 P = 0) from fun h2 => b2_0.1 h2 h), b2_t h]
  · rw [if_pos (show b2 P = 0 from b2_0.2 h), b2_f h]
def ThrX (f : Option Int32) (n : Nat) (a2 : Int32) : Prop := f = some 0 ∨ (f = some 1 ∧ ∀ k : Nat, k < n → a2 ≠ Int32.ofNat k)

theorem op_person {S S' : Nat → Nat × Nat} (hS : SCok S) (hS' : SMok S') (a1 a2 : Int32) : ∀ t σC σM, SimX t σC σM → ∃ r σM', fX13_person S' σM 64 a1 a2 = some (r, σM') ∧ SimX t σC σM' ∧ ((fX12_person S σC 64 a1 a2 = some r ∧ σM'.1 64 0 = 0) ∨ (σM'.1 64 0 = 1 ∧ σC.2.2 64 1 = some 67 ∧ ThrX (fX4_hasPerson S σC 67 a1) 6 a2)) := by
  intro t σC σM ⟨Q, w, rf, Rz, v, rm, q1, q2, hr, hr', invz, txz⟩
  subst q1
  subst q2
  obtain ⟨p, rfl, hp⟩ := exI a1
  have inv := INV_th invz
  have tx := tx0 txz
  have z0 : th0 Rz 64 0 = 0 := by unfold th0; rw [setR_same, updf_same rfl]
  have epre : ∀ x : Int32, fX13_person S' (mk Rz v rm) 64 (I p) x = fX13_person S' (mk (th0 Rz) v rm) 64 (I p) x := fun x => by
    unfold fX13_person
    rw [th0_I, th0_I]
    have : th0 (th0 Rz) = th0 Rz := by
      unfold th0
      rw [setR_same, setR_setR]
      congr 1
      funext j
      by_cases h : j = 0
      · rw [updf_same h, updf_same h]
      · rw [updf_ne h, updf_ne h]
    rw [this]
  rw [epre]
  have tid : th0 (th0 Rz) = th0 Rz := by
    unfold th0
    rw [setR_same, setR_setR]
    congr 1
    funext j
    by_cases h : j = 0
    · rw [updf_same h, updf_same h]
    · rw [updf_ne h, updf_ne h]
  generalize th0 Rz = R at *
  have m0 : ∀ {α : Type} (F : mm → Option α), wI (mk R v rm) 64 0 (0 : Int32) F = F (mk R v rm) := fun F => by rw [th0_I, tid]
  have inv' := inv
  obtain ⟨ta, ⟨wf, cp, nam⟩, ⟨lo, cl⟩, ur, fa, wk, ro, se, im, sw⟩ := inv
  have wn0 := wf.1
  have wn1 := wf.2.1
  have wl := lo.1
  have hb := wl.1
  have c1 := C_hasPerson (S := S) (w := w) hS hr wf cp hp
  have m1 := M_isPerson (S := S') (w := v) hS' hr' wf hp
  have e0 : (mk R v rm).1 64 0 = 0 := by rw [mk_1]; show I (R 64 0) = 0; rw [z0]; rfl
  have e1 : (mk (th1 R) v rm).1 64 0 = 1 := by
    rw [mk_1]
    show I (th1 R 64 0) = 1
    unfold th1
    rw [setR_same, updf_same rfl]
    rfl
  have r1 : rf 64 1 = some 67 := rfC64_1 hr
  have tx1 : texR t (th1 R 64 32) (th1 R 78) := by
    have a : th1 R 64 32 = R 64 32 := by unfold th1; rw [setR_same, updf_ne (by omega)]
    have b : th1 R 78 = R 78 := setR_ne (by omega)
    rw [a, b]; exact tx
  have simR : SimX t (mk Q w rf) (mk R v rm) := ⟨Q, w, rf, R, v, rm, rfl, rfl, hr, hr', inv', tx⟩
  have sim1 : SimX t (mk Q w rf) (mk (th1 R) v rm) := ⟨Q, w, rf, th1 R, v, rm, rfl, rfl, hr, hr', INV_th1 inv', tx1⟩
  by_cases h : 0 ≤ p ∧ p < R 66 0
  rotate_left
  · refine ⟨0, mk (th1 R) v rm, ?_, sim1, Or.inr ⟨e1, r1, Or.inl ?_⟩⟩
    · unfold fX13_person
      rw [m0, m1, bd0_s, if_neg (show ¬ ¬ (b2 (0 ≤ p ∧ p < R 66 0) = 0) from fun h2 => h2 (b2_0.2 h)), M_refuse, bd2_p]
    · rw [c1, b2_f h]
  have hb1 : ¬ (b2 (0 ≤ p ∧ p < R 66 0) = 0) := fun h2 => b2_0.1 h2 h
  have ok : ∀ (r : Int32), (fX13_person S' (mk R v rm) 64 (I p) a2 = some (r, mk R v rm)) → fX12_person S (mk Q w rf) 64 (I p) a2 = some r → ∃ r σM', fX13_person S' (mk R v rm) 64 (I p) a2 = some (r, σM') ∧ SimX t (mk Q w rf) σM' ∧ ((fX12_person S (mk Q w rf) 64 (I p) a2 = some r ∧ σM'.1 64 0 = 0) ∨ (σM'.1 64 0 = 1 ∧ (mk Q w rf).2.2 64 1 = some 67 ∧ ThrX (fX4_hasPerson S (mk Q w rf) 67 (I p)) 6 a2)) := fun r h1 h2 => ⟨r, mk R v rm, h1, simR, Or.inl ⟨h2, e0⟩⟩
  obtain ⟨⟨c102, c104, c103⟩, clp, clg⟩ := id cl
  obtain ⟨-, cpp, cpg, -⟩ := id cp
  have g1 := clp p h.1 h.2
  have q105 : Q 105 p = R 66 (105 + p) := g1.1
  have q106 : Q 106 p = R 66 (113 + p) := g1.2
  have wd := wf.2.2.2.2.2.2.2.2.2.2.2.2.2.1 p h.1 (by omega)
  have lw : ∀ F : Int32 → Option (Int32 × mm), ldI S' (mk R v rm) 66 ((48 : Int32) + I p) F = F (I (R 66 (48 + p))) := fun F => by rw [show (48 : Int32) = I 48 from rfl, I_add, ldM66 hS' (by omega)]
  have l102 : ∀ F : Int32 → Option (Int32 × mm), ldI S' (mk R v rm) 66 (102 : Int32) F = F (I (R 66 102)) := fun F => ldM66 (z := 102) hS' (by omega)
  by_cases x0 : a2 = (0 : Int32)
  · subst x0
    refine ok (b2 (awkA (R 66) p (R 66 102))) ?_ ?_
    · unfold fX13_person
      rw [m0, m1, bd0_s, if_pos hb1, gM14 hr', lw, if_pos (show (0 : Int32) = (0 : Int32) from rfl), gM14 hr', l102, M_isAwake hS' hr' wf wl (by omega) (by omega), bd0_s]
      by_cases q : (awkA (R 66) p (R 66 102))
      · rw [if_neg (show ¬ (b2 (awkA (R 66) p (R 66 102)) = 0) from fun h2 => b2_0.1 h2 q), b2_t q]; rfl
      · rw [if_pos (show b2 (awkA (R 66) p (R 66 102)) = 0 from b2_0.2 q), b2_f q]; rfl
    · unfold fX12_person
      rw [gC64_1 hr, c1, bd0_s, if_pos hb1, if_pos (show (0 : Int32) = (0 : Int32) from rfl), gC64_4 hr, C_isAwake hS hr isLife104 wf wl cp cl h, bd0_s, C_asN, bd0_s]
  by_cases x1 : a2 = (1 : Int32)
  · subst x1
    refine ok (I (R 66 (105 + p))) ?_ ?_
    · unfold fX13_person
      rw [m0, m1, bd0_s, if_pos hb1, gM14 hr', lw, if_neg (show ¬ ((1 : Int32) = (0 : Int32)) from by decide), if_pos (show (1 : Int32) = (1 : Int32) from rfl), gM14 hr', show (105 : Int32) = I 105 from rfl, I_add, ldM66 hS' (by omega)]
    · unfold fX12_person
      rw [gC64_1 hr, c1, bd0_s, if_pos hb1, if_neg (show ¬ ((1 : Int32) = (0 : Int32)) from by decide), if_pos (show (1 : Int32) = (1 : Int32) from rfl), gC64_4 hr, gC104_4 hr, ldD105 hS (by omega), q105]
  by_cases x2 : a2 = (2 : Int32)
  · subst x2
    refine ok (I (R 66 (48 + p))) ?_ ?_
    · unfold fX13_person
      rw [m0, m1, bd0_s, if_pos hb1, gM14 hr', lw, if_neg (show ¬ ((2 : Int32) = (0 : Int32)) from by decide), if_neg (show ¬ ((2 : Int32) = (1 : Int32)) from by decide), if_pos (show (2 : Int32) = (2 : Int32) from rfl)]
    · unfold fX12_person
      rw [gC64_1 hr, c1, bd0_s, if_pos hb1, if_neg (show ¬ ((2 : Int32) = (0 : Int32)) from by decide), if_neg (show ¬ ((2 : Int32) = (1 : Int32)) from by decide), if_pos (show (2 : Int32) = (2 : Int32) from rfl), gC64_1 hr, C_glassOf hS hr isPar67 wf cp h, bd0_s]
  by_cases x3 : a2 = (3 : Int32)
  · subst x3
    refine ok (I (ii (0 ≤ R 66 (48 + p)) (othA (R 66) p) (-1))) ?_ ?_
    · unfold fX13_person
      rw [m0, m1, bd0_s, if_pos hb1, gM14 hr', lw, if_neg (show ¬ ((3 : Int32) = (0 : Int32)) from by decide), if_neg (show ¬ ((3 : Int32) = (1 : Int32)) from by decide), if_neg (show ¬ ((3 : Int32) = (2 : Int32)) from by decide), if_pos (show (3 : Int32) = (3 : Int32) from rfl)]
      by_cases q : R 66 (48 + p) = -1
      · rw [q, if_neg (show ¬ ¬ (I (-1) = (-1 : Int32)) from fun h2 => h2 rfl), ii_f (by omega)]; rfl
      · rw [if_pos (show ¬ (I (R 66 (48 + p)) = (-1 : Int32)) from fun h2 => q ((I_eq (b := -1) (by omega) (by omega)).1 h2)), M_otherOf hS' hr' wf h (by omega), bd0_s, ii_t (by omega)]; rfl
    · unfold fX12_person
      rw [gC64_1 hr, c1, bd0_s, if_pos hb1, if_neg (show ¬ ((3 : Int32) = (0 : Int32)) from by decide), if_neg (show ¬ ((3 : Int32) = (1 : Int32)) from by decide), if_neg (show ¬ ((3 : Int32) = (2 : Int32)) from by decide), if_pos (show (3 : Int32) = (3 : Int32) from rfl), gC64_1 hr, C_otherOf hS hr isPar67 wf cp h, bd0_s]
  by_cases x4 : a2 = (4 : Int32)
  · subst x4
    refine ok (I (R 66 (113 + p))) ?_ ?_
    · unfold fX13_person
      rw [m0, m1, bd0_s, if_pos hb1, gM14 hr', lw, if_neg (show ¬ ((4 : Int32) = (0 : Int32)) from by decide), if_neg (show ¬ ((4 : Int32) = (1 : Int32)) from by decide), if_neg (show ¬ ((4 : Int32) = (2 : Int32)) from by decide), if_neg (show ¬ ((4 : Int32) = (3 : Int32)) from by decide), if_pos (show (4 : Int32) = (4 : Int32) from rfl), gM14 hr', show (113 : Int32) = I 113 from rfl, I_add, ldM66 hS' (by omega)]
    · unfold fX12_person
      rw [gC64_1 hr, c1, bd0_s, if_pos hb1, if_neg (show ¬ ((4 : Int32) = (0 : Int32)) from by decide), if_neg (show ¬ ((4 : Int32) = (1 : Int32)) from by decide), if_neg (show ¬ ((4 : Int32) = (2 : Int32)) from by decide), if_neg (show ¬ ((4 : Int32) = (3 : Int32)) from by decide), if_pos (show (4 : Int32) = (4 : Int32) from rfl), gC64_4 hr, gC104_5 hr, ldD106 hS (by omega), q106]
  by_cases x5 : a2 = (5 : Int32)
  · subst x5
    refine ok (b2 (wilA (R 66) p (R 66 102))) ?_ ?_
    · unfold fX13_person
      rw [m0, m1, bd0_s, if_pos hb1, gM14 hr', lw, if_neg (show ¬ ((5 : Int32) = (0 : Int32)) from by decide), if_neg (show ¬ ((5 : Int32) = (1 : Int32)) from by decide), if_neg (show ¬ ((5 : Int32) = (2 : Int32)) from by decide), if_neg (show ¬ ((5 : Int32) = (3 : Int32)) from by decide), if_neg (show ¬ ((5 : Int32) = (4 : Int32)) from by decide), if_pos (show (5 : Int32) = (5 : Int32) from rfl), gM14 hr', l102, M_isWilling hS' hr' wf wl (by omega) (by omega), bd0_s]
      by_cases q : (wilA (R 66) p (R 66 102))
      · rw [if_neg (show ¬ (b2 (wilA (R 66) p (R 66 102)) = 0) from fun h2 => b2_0.1 h2 q), b2_t q]; rfl
      · rw [if_pos (show b2 (wilA (R 66) p (R 66 102)) = 0 from b2_0.2 q), b2_f q]; rfl
    · unfold fX12_person
      rw [gC64_1 hr, c1, bd0_s, if_pos hb1, if_neg (show ¬ ((5 : Int32) = (0 : Int32)) from by decide), if_neg (show ¬ ((5 : Int32) = (1 : Int32)) from by decide), if_neg (show ¬ ((5 : Int32) = (2 : Int32)) from by decide), if_neg (show ¬ ((5 : Int32) = (3 : Int32)) from by decide), if_neg (show ¬ ((5 : Int32) = (4 : Int32)) from by decide), if_pos (show (5 : Int32) = (5 : Int32) from rfl), gC64_4 hr, C_isWilling hS hr isLife104 wf wl cp cl h, bd0_s, C_asN, bd0_s]
  refine ⟨0, mk (th1 R) v rm, ?_, sim1, Or.inr ⟨e1, r1, Or.inr ⟨by rw [c1, b2_t h], ?_⟩⟩⟩
  · unfold fX13_person
    rw [m0, m1, bd0_s, if_pos hb1, gM14 hr', lw, if_neg x0, if_neg x1, if_neg x2, if_neg x3, if_neg x4, if_neg x5, M_refuse, bd2_p]
  · intro k hk
    have : k = 0 ∨ k = 1 ∨ k = 2 ∨ k = 3 ∨ k = 4 ∨ k = 5 := by omega
    rcases this with e | e | e | e | e | e <;> subst e
    · exact x0
    · exact x1
    · exact x2
    · exact x3
    · exact x4
    · exact x5
theorem op_glass {S S' : Nat → Nat × Nat} (hS : SCok S) (hS' : SMok S') (a1 a2 : Int32) : ∀ t σC σM, SimX t σC σM → ∃ r σM', fX13_glass S' σM 64 a1 a2 = some (r, σM') ∧ SimX t σC σM' ∧ ((fX12_glass S σC 64 a1 a2 = some r ∧ σM'.1 64 0 = 0) ∨ (σM'.1 64 0 = 1 ∧ σC.2.2 64 1 = some 67 ∧ ThrX (fX4_hasGlass S σC 67 a1) 10 a2)) := by
  intro t σC σM ⟨Q, w, rf, Rz, v, rm, q1, q2, hr, hr', invz, txz⟩
  subst q1
  subst q2
  obtain ⟨p, rfl, hp⟩ := exI a1
  have inv := INV_th invz
  have tx := tx0 txz
  have z0 : th0 Rz 64 0 = 0 := by unfold th0; rw [setR_same, updf_same rfl]
  have epre : ∀ x : Int32, fX13_glass S' (mk Rz v rm) 64 (I p) x = fX13_glass S' (mk (th0 Rz) v rm) 64 (I p) x := fun x => by
    unfold fX13_glass
    rw [th0_I, th0_I]
    have : th0 (th0 Rz) = th0 Rz := by
      unfold th0
      rw [setR_same, setR_setR]
      congr 1
      funext j
      by_cases h : j = 0
      · rw [updf_same h, updf_same h]
      · rw [updf_ne h, updf_ne h]
    rw [this]
  rw [epre]
  have tid : th0 (th0 Rz) = th0 Rz := by
    unfold th0
    rw [setR_same, setR_setR]
    congr 1
    funext j
    by_cases h : j = 0
    · rw [updf_same h, updf_same h]
    · rw [updf_ne h, updf_ne h]
  generalize th0 Rz = R at *
  have m0 : ∀ {α : Type} (F : mm → Option α), wI (mk R v rm) 64 0 (0 : Int32) F = F (mk R v rm) := fun F => by rw [th0_I, tid]
  have inv' := inv
  obtain ⟨ta, ⟨wf, cp, nam⟩, ⟨lo, cl⟩, ur, fa, wk, ro, se, im, sw⟩ := inv
  have wn0 := wf.1
  have wn1 := wf.2.1
  have wl := lo.1
  have hb := wl.1
  have c1 := C_hasGlass (S := S) (w := w) hS hr wf cp hp
  have m1 := M_isGlass (S := S') (w := v) hS' hr' wf hp
  have e0 : (mk R v rm).1 64 0 = 0 := by rw [mk_1]; show I (R 64 0) = 0; rw [z0]; rfl
  have e1 : (mk (th1 R) v rm).1 64 0 = 1 := by
    rw [mk_1]
    show I (th1 R 64 0) = 1
    unfold th1
    rw [setR_same, updf_same rfl]
    rfl
  have r1 : rf 64 1 = some 67 := rfC64_1 hr
  have tx1 : texR t (th1 R 64 32) (th1 R 78) := by
    have a : th1 R 64 32 = R 64 32 := by unfold th1; rw [setR_same, updf_ne (by omega)]
    have b : th1 R 78 = R 78 := setR_ne (by omega)
    rw [a, b]; exact tx
  have simR : SimX t (mk Q w rf) (mk R v rm) := ⟨Q, w, rf, R, v, rm, rfl, rfl, hr, hr', inv', tx⟩
  have sim1 : SimX t (mk Q w rf) (mk (th1 R) v rm) := ⟨Q, w, rf, th1 R, v, rm, rfl, rfl, hr, hr', INV_th1 inv', tx1⟩
  by_cases h : 0 ≤ p ∧ p < R 66 1
  rotate_left
  · refine ⟨0, mk (th1 R) v rm, ?_, sim1, Or.inr ⟨e1, r1, Or.inl ?_⟩⟩
    · unfold fX13_glass
      rw [m0, m1, bd0_s, if_neg (show ¬ ¬ (b2 (0 ≤ p ∧ p < R 66 1) = 0) from fun h2 => h2 (b2_0.2 h)), M_refuse, bd2_p]
    · rw [c1, b2_f h]
  have hb1 : ¬ (b2 (0 ≤ p ∧ p < R 66 1) = 0) := fun h2 => b2_0.1 h2 h
  have ok : ∀ (r : Int32), (fX13_glass S' (mk R v rm) 64 (I p) a2 = some (r, mk R v rm)) → fX12_glass S (mk Q w rf) 64 (I p) a2 = some r → ∃ r σM', fX13_glass S' (mk R v rm) 64 (I p) a2 = some (r, σM') ∧ SimX t (mk Q w rf) σM' ∧ ((fX12_glass S (mk Q w rf) 64 (I p) a2 = some r ∧ σM'.1 64 0 = 0) ∨ (σM'.1 64 0 = 1 ∧ (mk Q w rf).2.2 64 1 = some 67 ∧ ThrX (fX4_hasGlass S (mk Q w rf) 67 (I p)) 10 a2)) := fun r h1 h2 => ⟨r, mk R v rm, h1, simR, Or.inl ⟨h2, e0⟩⟩
  obtain ⟨⟨c102, c104, c103⟩, clp, clg⟩ := id cl
  obtain ⟨-, cpp, cpg, -⟩ := id cp
  have g1 := clg p h.1 h.2
  have g2 := cpg p h.1 h.2
  have q107 : Q 107 p = R 66 (125 + p) := g1.1
  have q108 : Q 108 p = R 66 (129 + p) := g1.2.1
  have q109 : Q 109 p = R 66 (121 + p) := g1.2.2.1
  have q110 : Q 110 p = R 66 (133 + p) := g1.2.2.2.1
  have q111 : Q 111 p = R 66 (137 + p) := g1.2.2.2.2
  have q75 : Q 75 p = R 66 (56 + p) := g2.1
  have q76 : Q 76 p = R 66 (60 + p) := g2.2.1
  have q77 : Q 77 p = R 66 (64 + p) := g2.2.2.1
  have ldp8 : ∀ F : Int32 → Option Int32, ldI S (mk Q w rf) 75 (I p) F = F (I (Q 75 p)) := fun F => ldP8 (x := 67) hS isPar67 (by omega)
  have ldp9 : ∀ F : Int32 → Option Int32, ldI S (mk Q w rf) 76 (I p) F = F (I (Q 76 p)) := fun F => ldP9 (x := 67) hS isPar67 (by omega)
  have l102 : ∀ F : Int32 → Option (Int32 × mm), ldI S' (mk R v rm) 66 (102 : Int32) F = F (I (R 66 102)) := fun F => ldM66 (z := 102) hS' (by omega)
  have qh : (mk Q w rf).1 104 1 = I (R 66 102) := by rw [mk_1, castI, c102]
  by_cases x0 : a2 = (0 : Int32)
  · subst x0
    refine ok (I (R 66 (56 + p))) ?_ ?_
    · unfold fX13_glass
      rw [m0, m1, bd0_s, if_pos hb1, if_pos (show (0 : Int32) = (0 : Int32) from rfl), gM14 hr', show (56 : Int32) = I 56 from rfl, I_add, ldM66 hS' (by omega)]
    · unfold fX12_glass
      rw [gC64_1 hr, c1, bd0_s, if_pos hb1, if_pos (show (0 : Int32) = (0 : Int32) from rfl), gC64_1 hr, gD67_8 hr, ldp8, q75]
  by_cases x1 : a2 = (1 : Int32)
  · subst x1
    refine ok (I (R 66 (60 + p))) ?_ ?_
    · unfold fX13_glass
      rw [m0, m1, bd0_s, if_pos hb1, if_neg (show ¬ ((1 : Int32) = (0 : Int32)) from by decide), if_pos (show (1 : Int32) = (1 : Int32) from rfl), gM14 hr', show (60 : Int32) = I 60 from rfl, I_add, ldM66 hS' (by omega)]
    · unfold fX12_glass
      rw [gC64_1 hr, c1, bd0_s, if_pos hb1, if_neg (show ¬ ((1 : Int32) = (0 : Int32)) from by decide), if_pos (show (1 : Int32) = (1 : Int32) from rfl), gC64_1 hr, gD67_9 hr, ldp9, q76]
  by_cases x2 : a2 = (2 : Int32)
  · subst x2
    refine ok (I (R 66 (64 + p))) ?_ ?_
    · unfold fX13_glass
      rw [m0, m1, bd0_s, if_pos hb1, if_neg (show ¬ ((2 : Int32) = (0 : Int32)) from by decide), if_neg (show ¬ ((2 : Int32) = (1 : Int32)) from by decide), if_pos (show (2 : Int32) = (2 : Int32) from rfl), gM14 hr', show (64 : Int32) = I 64 from rfl, I_add, ldM66 hS' (by omega)]
    · unfold fX12_glass
      rw [gC64_1 hr, c1, bd0_s, if_pos hb1, if_neg (show ¬ ((2 : Int32) = (0 : Int32)) from by decide), if_neg (show ¬ ((2 : Int32) = (1 : Int32)) from by decide), if_pos (show (2 : Int32) = (2 : Int32) from rfl), gC64_1 hr, gD67_10 hr, ldD77 hS (by omega), q77]
  by_cases x3 : a2 = (3 : Int32)
  · subst x3
    refine ok (I (R 66 (121 + p))) ?_ ?_
    · unfold fX13_glass
      rw [m0, m1, bd0_s, if_pos hb1, if_neg (show ¬ ((3 : Int32) = (0 : Int32)) from by decide), if_neg (show ¬ ((3 : Int32) = (1 : Int32)) from by decide), if_neg (show ¬ ((3 : Int32) = (2 : Int32)) from by decide), if_pos (show (3 : Int32) = (3 : Int32) from rfl), gM14 hr', show (121 : Int32) = I 121 from rfl, I_add, ldM66 hS' (by omega)]
    · unfold fX12_glass
      rw [gC64_1 hr, c1, bd0_s, if_pos hb1, if_neg (show ¬ ((3 : Int32) = (0 : Int32)) from by decide), if_neg (show ¬ ((3 : Int32) = (1 : Int32)) from by decide), if_neg (show ¬ ((3 : Int32) = (2 : Int32)) from by decide), if_pos (show (3 : Int32) = (3 : Int32) from rfl), gC64_4 hr, gC104_8 hr, ldD109 hS (by omega), q109]
  by_cases x4 : a2 = (4 : Int32)
  · subst x4
    refine ok (I (R 66 (125 + p))) ?_ ?_
    · unfold fX13_glass
      rw [m0, m1, bd0_s, if_pos hb1, if_neg (show ¬ ((4 : Int32) = (0 : Int32)) from by decide), if_neg (show ¬ ((4 : Int32) = (1 : Int32)) from by decide), if_neg (show ¬ ((4 : Int32) = (2 : Int32)) from by decide), if_neg (show ¬ ((4 : Int32) = (3 : Int32)) from by decide), if_pos (show (4 : Int32) = (4 : Int32) from rfl), gM14 hr', show (125 : Int32) = I 125 from rfl, I_add, ldM66 hS' (by omega)]
    · unfold fX12_glass
      rw [gC64_1 hr, c1, bd0_s, if_pos hb1, if_neg (show ¬ ((4 : Int32) = (0 : Int32)) from by decide), if_neg (show ¬ ((4 : Int32) = (1 : Int32)) from by decide), if_neg (show ¬ ((4 : Int32) = (2 : Int32)) from by decide), if_neg (show ¬ ((4 : Int32) = (3 : Int32)) from by decide), if_pos (show (4 : Int32) = (4 : Int32) from rfl), gC64_4 hr, gC104_6 hr, ldD107 hS (by omega), q107]
  by_cases x5 : a2 = (5 : Int32)
  · subst x5
    refine ok (I (R 66 (129 + p))) ?_ ?_
    · unfold fX13_glass
      rw [m0, m1, bd0_s, if_pos hb1, if_neg (show ¬ ((5 : Int32) = (0 : Int32)) from by decide), if_neg (show ¬ ((5 : Int32) = (1 : Int32)) from by decide), if_neg (show ¬ ((5 : Int32) = (2 : Int32)) from by decide), if_neg (show ¬ ((5 : Int32) = (3 : Int32)) from by decide), if_neg (show ¬ ((5 : Int32) = (4 : Int32)) from by decide), if_pos (show (5 : Int32) = (5 : Int32) from rfl), gM14 hr', show (129 : Int32) = I 129 from rfl, I_add, ldM66 hS' (by omega)]
    · unfold fX12_glass
      rw [gC64_1 hr, c1, bd0_s, if_pos hb1, if_neg (show ¬ ((5 : Int32) = (0 : Int32)) from by decide), if_neg (show ¬ ((5 : Int32) = (1 : Int32)) from by decide), if_neg (show ¬ ((5 : Int32) = (2 : Int32)) from by decide), if_neg (show ¬ ((5 : Int32) = (3 : Int32)) from by decide), if_neg (show ¬ ((5 : Int32) = (4 : Int32)) from by decide), if_pos (show (5 : Int32) = (5 : Int32) from rfl), gC64_4 hr, gC104_7 hr, ldD108 hS (by omega), q108]
  by_cases x6 : a2 = (6 : Int32)
  · subst x6
    refine ok (b2 (lapA (R 66) p)) ?_ ?_
    · unfold fX13_glass
      rw [m0, m1, bd0_s, if_pos hb1, if_neg (show ¬ ((6 : Int32) = (0 : Int32)) from by decide), if_neg (show ¬ ((6 : Int32) = (1 : Int32)) from by decide), if_neg (show ¬ ((6 : Int32) = (2 : Int32)) from by decide), if_neg (show ¬ ((6 : Int32) = (3 : Int32)) from by decide), if_neg (show ¬ ((6 : Int32) = (4 : Int32)) from by decide), if_neg (show ¬ ((6 : Int32) = (5 : Int32)) from by decide), if_pos (show (6 : Int32) = (6 : Int32) from rfl), M_isLapsed hS' hr', bd0_s]
      by_cases q : (lapA (R 66) p)
      · rw [if_neg (show ¬ (b2 (lapA (R 66) p) = 0) from fun h2 => b2_0.1 h2 q), b2_t q]; rfl
      · rw [if_pos (show b2 (lapA (R 66) p) = 0 from b2_0.2 q), b2_f q]; rfl
    · unfold fX12_glass
      rw [gC64_1 hr, c1, bd0_s, if_pos hb1, if_neg (show ¬ ((6 : Int32) = (0 : Int32)) from by decide), if_neg (show ¬ ((6 : Int32) = (1 : Int32)) from by decide), if_neg (show ¬ ((6 : Int32) = (2 : Int32)) from by decide), if_neg (show ¬ ((6 : Int32) = (3 : Int32)) from by decide), if_neg (show ¬ ((6 : Int32) = (4 : Int32)) from by decide), if_neg (show ¬ ((6 : Int32) = (5 : Int32)) from by decide), if_pos (show (6 : Int32) = (6 : Int32) from rfl), gC64_4 hr, C_isLapsed cl, bd0_s, C_asN, bd0_s]
  by_cases x7 : a2 = (7 : Int32)
  · subst x7
    refine ok (I (R 66 (133 + p))) ?_ ?_
    · unfold fX13_glass
      rw [m0, m1, bd0_s, if_pos hb1, if_neg (show ¬ ((7 : Int32) = (0 : Int32)) from by decide), if_neg (show ¬ ((7 : Int32) = (1 : Int32)) from by decide), if_neg (show ¬ ((7 : Int32) = (2 : Int32)) from by decide), if_neg (show ¬ ((7 : Int32) = (3 : Int32)) from by decide), if_neg (show ¬ ((7 : Int32) = (4 : Int32)) from by decide), if_neg (show ¬ ((7 : Int32) = (5 : Int32)) from by decide), if_neg (show ¬ ((7 : Int32) = (6 : Int32)) from by decide), if_pos (show (7 : Int32) = (7 : Int32) from rfl), gM14 hr', show (133 : Int32) = I 133 from rfl, I_add, ldM66 hS' (by omega)]
    · unfold fX12_glass
      rw [gC64_1 hr, c1, bd0_s, if_pos hb1, if_neg (show ¬ ((7 : Int32) = (0 : Int32)) from by decide), if_neg (show ¬ ((7 : Int32) = (1 : Int32)) from by decide), if_neg (show ¬ ((7 : Int32) = (2 : Int32)) from by decide), if_neg (show ¬ ((7 : Int32) = (3 : Int32)) from by decide), if_neg (show ¬ ((7 : Int32) = (4 : Int32)) from by decide), if_neg (show ¬ ((7 : Int32) = (5 : Int32)) from by decide), if_neg (show ¬ ((7 : Int32) = (6 : Int32)) from by decide), if_pos (show (7 : Int32) = (7 : Int32) from rfl), gC64_4 hr, gC104_9 hr, ldD110 hS (by omega), q110]
  by_cases x8 : a2 = (8 : Int32)
  · subst x8
    refine ok (I (R 66 (137 + p))) ?_ ?_
    · unfold fX13_glass
      rw [m0, m1, bd0_s, if_pos hb1, if_neg (show ¬ ((8 : Int32) = (0 : Int32)) from by decide), if_neg (show ¬ ((8 : Int32) = (1 : Int32)) from by decide), if_neg (show ¬ ((8 : Int32) = (2 : Int32)) from by decide), if_neg (show ¬ ((8 : Int32) = (3 : Int32)) from by decide), if_neg (show ¬ ((8 : Int32) = (4 : Int32)) from by decide), if_neg (show ¬ ((8 : Int32) = (5 : Int32)) from by decide), if_neg (show ¬ ((8 : Int32) = (6 : Int32)) from by decide), if_neg (show ¬ ((8 : Int32) = (7 : Int32)) from by decide), if_pos (show (8 : Int32) = (8 : Int32) from rfl), gM14 hr', show (137 : Int32) = I 137 from rfl, I_add, ldM66 hS' (by omega)]
    · unfold fX12_glass
      rw [gC64_1 hr, c1, bd0_s, if_pos hb1, if_neg (show ¬ ((8 : Int32) = (0 : Int32)) from by decide), if_neg (show ¬ ((8 : Int32) = (1 : Int32)) from by decide), if_neg (show ¬ ((8 : Int32) = (2 : Int32)) from by decide), if_neg (show ¬ ((8 : Int32) = (3 : Int32)) from by decide), if_neg (show ¬ ((8 : Int32) = (4 : Int32)) from by decide), if_neg (show ¬ ((8 : Int32) = (5 : Int32)) from by decide), if_neg (show ¬ ((8 : Int32) = (6 : Int32)) from by decide), if_neg (show ¬ ((8 : Int32) = (7 : Int32)) from by decide), if_pos (show (8 : Int32) = (8 : Int32) from rfl), gC64_4 hr, gC104_10 hr, ldD111 hS (by omega), q111]
  by_cases x9 : a2 = (9 : Int32)
  · subst x9
    refine ok (I (ii (lapA (R 66) p ∨ R 66 102 = 600) 0 (runA (R 66) p (R 66 102)))) ?_ ?_
    · unfold fX13_glass
      rw [m0, m1, bd0_s, if_pos hb1, if_neg (show ¬ ((9 : Int32) = (0 : Int32)) from by decide), if_neg (show ¬ ((9 : Int32) = (1 : Int32)) from by decide), if_neg (show ¬ ((9 : Int32) = (2 : Int32)) from by decide), if_neg (show ¬ ((9 : Int32) = (3 : Int32)) from by decide), if_neg (show ¬ ((9 : Int32) = (4 : Int32)) from by decide), if_neg (show ¬ ((9 : Int32) = (5 : Int32)) from by decide), if_neg (show ¬ ((9 : Int32) = (6 : Int32)) from by decide), if_neg (show ¬ ((9 : Int32) = (7 : Int32)) from by decide), if_neg (show ¬ ((9 : Int32) = (8 : Int32)) from by decide), if_pos (show (9 : Int32) = (9 : Int32) from rfl), M_isLapsed hS' hr', bd0_s]
      by_cases q : lapA (R 66) p
      · rw [if_pos (show ¬ (b2 (lapA (R 66) p) = 0) from fun h2 => b2_0.1 h2 q), ii_t (Or.inl q)]; rfl
      · rw [if_neg (show ¬ ¬ (b2 (lapA (R 66) p) = 0) from fun h2 => h2 (b2_0.2 q)), gM14 hr', l102]
        by_cases q6 : R 66 102 = 600
        · rw [q6, if_neg (show ¬ ¬ (I 600 = (600 : Int32)) from fun h2 => h2 rfl), ii_t (Or.inr rfl)]; rfl
        · rw [if_pos (show ¬ (I (R 66 102) = (600 : Int32)) from fun h2 => q6 ((I_eq (b := 600) (by omega) (by omega)).1 h2)), gM14 hr', l102, M_runs hS' hr' wf wl (by omega) (by omega), bd0_s, ii_f (fun h2 => h2.elim q q6)]; rfl
    · unfold fX12_glass
      rw [gC64_1 hr, c1, bd0_s, if_pos hb1, if_neg (show ¬ ((9 : Int32) = (0 : Int32)) from by decide), if_neg (show ¬ ((9 : Int32) = (1 : Int32)) from by decide), if_neg (show ¬ ((9 : Int32) = (2 : Int32)) from by decide), if_neg (show ¬ ((9 : Int32) = (3 : Int32)) from by decide), if_neg (show ¬ ((9 : Int32) = (4 : Int32)) from by decide), if_neg (show ¬ ((9 : Int32) = (5 : Int32)) from by decide), if_neg (show ¬ ((9 : Int32) = (6 : Int32)) from by decide), if_neg (show ¬ ((9 : Int32) = (7 : Int32)) from by decide), if_neg (show ¬ ((9 : Int32) = (8 : Int32)) from by decide), if_pos (show (9 : Int32) = (9 : Int32) from rfl), gC64_4 hr, C_isLapsed cl, bd0_s]
      by_cases q : lapA (R 66) p
      · rw [if_pos (show ¬ (b2 (lapA (R 66) p) = 0) from fun h2 => b2_0.1 h2 q), ii_t (Or.inl q)]; rfl
      · rw [if_neg (show ¬ ¬ (b2 (lapA (R 66) p) = 0) from fun h2 => h2 (b2_0.2 q)), gC64_4 hr, qh]
        by_cases q6 : R 66 102 = 600
        · rw [if_neg (show ¬ (I (R 66 102) < (600 : Int32)) from by rw [I_lit, I_lt (by omega) (by omega)]; omega), ii_t (Or.inr q6)]; rfl
        · rw [if_pos (show I (R 66 102) < (600 : Int32) from by rw [I_lit, I_lt (by omega) (by omega)]; omega), gC64_4 hr, gC64_4 hr, qh, C_runsAt hS hr isLife104 wf wl cp cl h (by omega), bd0_s, ii_f (fun h2 => h2.elim q q6)]; rfl
  refine ⟨0, mk (th1 R) v rm, ?_, sim1, Or.inr ⟨e1, r1, Or.inr ⟨by rw [c1, b2_t h], ?_⟩⟩⟩
  · unfold fX13_glass
    rw [m0, m1, bd0_s, if_pos hb1, if_neg x0, if_neg x1, if_neg x2, if_neg x3, if_neg x4, if_neg x5, if_neg x6, if_neg x7, if_neg x8, if_neg x9, M_refuse, bd2_p]
  · intro k hk
    have : k = 0 ∨ k = 1 ∨ k = 2 ∨ k = 3 ∨ k = 4 ∨ k = 5 ∨ k = 6 ∨ k = 7 ∨ k = 8 ∨ k = 9 := by omega
    rcases this with e | e | e | e | e | e | e | e | e | e <;> subst e
    · exact x0
    · exact x1
    · exact x2
    · exact x3
    · exact x4
    · exact x5
    · exact x6
    · exact x7
    · exact x8
    · exact x9
